/-! THE REFERENCE'S WORLD: one object, its arrays; the rows of the job table R: R j k is job j's field k
(0 work 1 due 2 market 3 bid 4 span 5 save 6 bring 7 came 8 saved 9 unsaved 10 lost 11 worked 12 brought 13 saving 14 waited 15 paid 16 full hours 17 place 18 ready at 19 taken 20 to bring 21 to save 22 since 23 guarded) -/
def jcl (cI cZ : ClassId) (k : Nat) : ClassId := if k = 23 then cZ else cI
def jcell (cI cZ : ClassId) (r : Nat → Nat) (R : Nat → Nat → Int32) (k : Nat) : Nat × va_E := (r k, .inl (jcl cI cZ k, 12, .inl (fun i => R i k)))
def jobA (cI cZ : ClassId) (r : Nat → Nat) (R : Nat → Nat → Int32) : va_W := (List.range 24).map (jcell cI cZ r R)
def mFs (r : Nat → Nat) (now full jobs lev : Int32) : List Value := [.int now, .int full, .ref (r 24), .int jobs, .ref (r 0), .ref (r 1), .ref (r 2), .ref (r 3), .ref (r 4), .ref (r 5), .ref (r 6), .ref (r 7), .ref (r 8), .ref (r 9), .ref (r 10), .ref (r 11), .ref (r 12), .ref (r 13), .ref (r 14), .ref (r 15), .ref (r 16), .ref (r 17), .ref (r 18), .ref (r 19), .ref (r 20), .ref (r 21), .ref (r 22), .ref (r 23), .int lev, .ref (r 25), .ref (r 26), .ref (r 27), .ref (r 28), .ref (r 29), .ref (r 30)]
def wM (cI cL cZ : ClassId) (a : Nat) (r : Nat → Nat) (now full jobs lev : Int32) (pr : Nat → Int32) (R : Nat → Nat → Int32) (lp ch : Nat → Int32) (me : Nat → Int64) (ru wo co : Nat → Int32) : va_W :=
  [(a, .inr (6, mFs r now full jobs lev)), (r 24, .inl (cI, 600, .inl pr)), (r 25, .inl (cI, 6, .inl lp)), (r 26, .inl (cI, 36, .inl ch)), (r 27, .inl (cL, 1014, .inr (.inl me))), (r 28, .inl (cI, 1014, .inl ru)), (r 29, .inl (cI, 1014, .inl wo)), (r 30, .inl (cI, 6231, .inl co))] ++ jobA cI cZ r R
theorem jobA_get {cI cZ : ClassId} {r : Nat → Nat} {R : Nat → Nat → Int32} {k : Nat} (hk : k < 24) : (jobA cI cZ r R)[k]? = some (jcell cI cZ r R k) := by
  simp [jobA, hk]
theorem wM_get {cI cL cZ : ClassId} {a : Nat} {r : Nat → Nat} {now full jobs lev : Int32} {pr : Nat → Int32} {R : Nat → Nat → Int32} {lp ch : Nat → Int32} {me : Nat → Int64} {ru wo co : Nat → Int32} {k : Nat} (hk : k < 24) : (wM cI cL cZ a r now full jobs lev pr R lp ch me ru wo co)[8 + k]? = some (jcell cI cZ r R k) := by
  unfold wM
  rw [List.getElem?_append_right (by simp)]
  exact (congrArg (fun z => (jobA cI cZ r R)[z]?) (by simp)).trans (jobA_get hk)
theorem jobA_set {cI cZ : ClassId} {r : Nat → Nat} {R : Nat → Nat → Int32} {j : Nat} {row : Nat → Int32} {k : Nat} {x : Int32} (hk : k < 24) : (jobA cI cZ r (va_up R j row)).set k (r k, .inl (jcl cI cZ k, 12, .inl (upd (fun i => va_up R j row i k) j x))) = jobA cI cZ r (va_up R j (va_up row k x)) := by
  apply List.ext_getElem?
  intro i
  by_cases hi : i < 24
  · rw [jobA_get hi, List.getElem?_set]
    by_cases h : k = i
    · subst h
      rw [if_pos rfl, if_pos (by simp [jobA]; exact hk)]
      simp only [jcell]
      congr 6
      funext t
      by_cases ht : t = j
      · subst ht; simp [upd, va_up]
      · simp [upd, va_up, ht]
    · rw [if_neg h, jobA_get hi]
      simp only [jcell]
      congr 6
      funext t
      by_cases ht : t = j
      · subst ht
        have h' : ¬ i = k := fun q => h q.symm
        simp [va_up, h']
      · simp [va_up, ht]
  · rw [List.getElem?_eq_none (by simp [jobA]; omega), List.getElem?_eq_none (by simp [jobA]; omega)]
theorem wM_set {cI cL cZ : ClassId} {a : Nat} {r : Nat → Nat} {now full jobs lev : Int32} {pr : Nat → Int32} {R : Nat → Nat → Int32} {lp ch : Nat → Int32} {me : Nat → Int64} {ru wo co : Nat → Int32} {j : Nat} {row : Nat → Int32} {k : Nat} {x : Int32} (hk : k < 24) : (wM cI cL cZ a r now full jobs lev pr (va_up R j row) lp ch me ru wo co).set (8 + k) (r k, .inl (jcl cI cZ k, 12, .inl (upd (fun i => va_up R j row i k) j x))) = wM cI cL cZ a r now full jobs lev pr (va_up R j (va_up row k x)) lp ch me ru wo co := by
  unfold wM
  rw [List.set_append_right _ _ (by simp)]
  refine congrArg _ ?_
  exact (congrArg (fun z => (jobA cI cZ r (va_up R j row)).set z _) (by simp)).trans (jobA_set hk)
theorem va_up_id {α : Type} (R : Nat → α) (j : Nat) : va_up R j (R j) = R := by
  funext t
  by_cases h : t = j
  · subst h; simp [va_up]
  · simp [va_up, h]
theorem va_up_up {α : Type} (R : Nat → α) (j : Nat) (x y : α) : va_up (va_up R j x) j y = va_up R j y := by
  funext t
  by_cases h : t = j
  · subst h; simp [va_up]
  · simp [va_up, h]
section JobRows
variable {p : Program} {l : Launch} {e : Env} {Rm : Room} {s : State} {m : MethodId} {args : Array Value} {below : List Frame} {meth : Method} {c : Code} {H : Heap} {locs : List Loc} {cells slots : Nat} {Q : State → Prop}
variable {cc : ByteArray} {pc : Nat} {ls : Array Slot} {rest : List Value} {D : va_G} {A : Nat → Prop} {H0 : Heap}
variable {cI cL cZ cO : ClassId} {a : Nat} {r : Nat → Nat} {now full jobs lev : Int32} {pr : Nat → Int32} {R : Nat → Nat → Int32} {lp ch : Nat → Int32} {me : Nat → Int64} {ru wo co : Nat → Int32} {j : Nat} {row : Nat → Int32}
theorem jld {v : Int32} (hx : p.tables.exec = Jvm.exec) (hb : c.code = cc) (hK : va_K D vwCl (tyL cI cL cZ cO) s) (hP : va_P D vwCl (wM cI cL cZ a r now full jobs lev pr (va_up R j row) lp ch me ru wo co) H) (k : Nat) (hk : k < 23) (hj : j < 12) (hv : row k = v) (hdg : decode cc pc = .ok (.iaload, 1)) (kk : W p l e Rm s m args below meth c H locs cells slots Q (F0 m (pc + 1) ls (.int v :: rest))) : W p l e Rm s m args below meth c H locs cells slots Q (F0 m pc ls (.int (nI j) :: .ref (r k) :: rest)) := by
  have hc : jcl cI cZ k = cI := if_neg (by omega)
  have hg := wM_get (cI := cI) (cL := cL) (cZ := cZ) (a := a) (r := r) (now := now) (full := full) (jobs := jobs) (lev := lev) (pr := pr) (R := va_up R j row) (lp := lp) (ch := ch) (me := me) (ru := ru) (wo := wo) (co := co) (k := k) (by omega)
  unfold jcell at hg
  rw [hc] at hg
  refine n_iald hx hb hK hP (8 + k) 0 hg rfl hj (by decide) hdg ?_
  subst hv
  simpa [va_up] using kk
theorem jst {x : Int32} (hx : p.tables.exec = Jvm.exec) (hb : c.code = cc) (hK : va_K D vwCl (tyL cI cL cZ cO) s) (hP : va_P D vwCl (wM cI cL cZ a r now full jobs lev pr (va_up R j row) lp ch me ru wo co) H) (hD : va_D A (wM cI cL cZ a r now full jobs lev pr (va_up R j row) lp ch me ru wo co)) (hS : va_S A H0 H locs) (k : Nat) (hk : k < 23) (hj : j < 12) (hdg : decode cc pc = .ok (.iastore, 1)) (kk : ∀ (H1 : Heap) (locs1 : List Loc), va_P D vwCl (wM cI cL cZ a r now full jobs lev pr (va_up R j (va_up row k x)) lp ch me ru wo co) H1 → va_D A (wM cI cL cZ a r now full jobs lev pr (va_up R j (va_up row k x)) lp ch me ru wo co) → va_S A H0 H1 locs1 → W p l e Rm s m args below meth c H1 locs1 cells slots Q (F0 m (pc + 1) ls rest)) : W p l e Rm s m args below meth c H locs cells slots Q (F0 m pc ls (.int x :: .int (nI j) :: .ref (r k) :: rest)) := by
  have hc : jcl cI cZ k = cI := if_neg (by omega)
  have hg := wM_get (cI := cI) (cL := cL) (cZ := cZ) (a := a) (r := r) (now := now) (full := full) (jobs := jobs) (lev := lev) (pr := pr) (R := va_up R j row) (lp := lp) (ch := ch) (me := me) (ru := ru) (wo := wo) (co := co) (k := k) (by omega)
  unfold jcell at hg
  rw [hc] at hg
  have hs := wM_set (cI := cI) (cL := cL) (cZ := cZ) (a := a) (r := r) (now := now) (full := full) (jobs := jobs) (lev := lev) (pr := pr) (R := R) (lp := lp) (ch := ch) (me := me) (ru := ru) (wo := wo) (co := co) (j := j) (row := row) (k := k) (x := x) (by omega)
  rw [hc] at hs
  refine n_iast hx hb hK hP hD hS (8 + k) 0 hg rfl hj (by decide) hdg (fun H1 locs1 h1 h2 h3 => ?_)
  rw [hs] at h1 h2
  exact kk H1 locs1 h1 h2 h3
theorem jzld {v : Int32} (hx : p.tables.exec = Jvm.exec) (hb : c.code = cc) (hK : va_K D vwCl (tyL cI cL cZ cO) s) (hP : va_P D vwCl (wM cI cL cZ a r now full jobs lev pr (va_up R j row) lp ch me ru wo co) H) (k : Nat) (hk : k = 23) (hj : j < 12) (hv : row k = v) (hdg : decode cc pc = .ok (.baload, 1)) (kk : W p l e Rm s m args below meth c H locs cells slots Q (F0 m (pc + 1) ls (.int v :: rest))) : W p l e Rm s m args below meth c H locs cells slots Q (F0 m pc ls (.int (nI j) :: .ref (r k) :: rest)) := by
  have hc : jcl cI cZ k = cZ := if_pos hk
  have hg := wM_get (cI := cI) (cL := cL) (cZ := cZ) (a := a) (r := r) (now := now) (full := full) (jobs := jobs) (lev := lev) (pr := pr) (R := va_up R j row) (lp := lp) (ch := ch) (me := me) (ru := ru) (wo := wo) (co := co) (k := k) (by omega)
  unfold jcell at hg
  rw [hc] at hg
  refine n_zald hx hb hK hP (8 + k) 2 hg rfl hj (by decide) hdg ?_
  subst hv
  simpa [va_up] using kk
theorem jzst {x : Int32} (hx : p.tables.exec = Jvm.exec) (hb : c.code = cc) (hK : va_K D vwCl (tyL cI cL cZ cO) s) (hP : va_P D vwCl (wM cI cL cZ a r now full jobs lev pr (va_up R j row) lp ch me ru wo co) H) (hD : va_D A (wM cI cL cZ a r now full jobs lev pr (va_up R j row) lp ch me ru wo co)) (hS : va_S A H0 H locs) (k : Nat) (hk : k = 23) (hj : j < 12) (hn : vp_nar .boolean x = x) (hdg : decode cc pc = .ok (.bastore, 1)) (kk : ∀ (H1 : Heap) (locs1 : List Loc), va_P D vwCl (wM cI cL cZ a r now full jobs lev pr (va_up R j (va_up row k x)) lp ch me ru wo co) H1 → va_D A (wM cI cL cZ a r now full jobs lev pr (va_up R j (va_up row k x)) lp ch me ru wo co) → va_S A H0 H1 locs1 → W p l e Rm s m args below meth c H1 locs1 cells slots Q (F0 m (pc + 1) ls rest)) : W p l e Rm s m args below meth c H locs cells slots Q (F0 m pc ls (.int x :: .int (nI j) :: .ref (r k) :: rest)) := by
  have hc : jcl cI cZ k = cZ := if_pos hk
  have hg := wM_get (cI := cI) (cL := cL) (cZ := cZ) (a := a) (r := r) (now := now) (full := full) (jobs := jobs) (lev := lev) (pr := pr) (R := va_up R j row) (lp := lp) (ch := ch) (me := me) (ru := ru) (wo := wo) (co := co) (k := k) (by omega)
  unfold jcell at hg
  rw [hc] at hg
  have hs := wM_set (cI := cI) (cL := cL) (cZ := cZ) (a := a) (r := r) (now := now) (full := full) (jobs := jobs) (lev := lev) (pr := pr) (R := R) (lp := lp) (ch := ch) (me := me) (ru := ru) (wo := wo) (co := co) (j := j) (row := row) (k := k) (x := x) (by omega)
  rw [hc] at hs
  have hjc : (nI j).toNatClampNeg = j := nI_clamp (by omega)
  refine va_zast hx hb hK hP hD hS (8 + k) 2 hg rfl (vp_in_nI hj (by decide)) hdg (fun H1 locs1 h1 h2 h3 => ?_)
  rw [hn, hjc, hs] at h1 h2
  exact kk H1 locs1 h1 h2 h3
theorem jldR {v : Int32} (hx : p.tables.exec = Jvm.exec) (hb : c.code = cc) (hK : va_K D vwCl (tyL cI cL cZ cO) s) (hP : va_P D vwCl (wM cI cL cZ a r now full jobs lev pr R lp ch me ru wo co) H) (k : Nat) (hk : k < 23) (hj : j < 12) (hv : R j k = v) (hdg : decode cc pc = .ok (.iaload, 1)) (kk : W p l e Rm s m args below meth c H locs cells slots Q (F0 m (pc + 1) ls (.int v :: rest))) : W p l e Rm s m args below meth c H locs cells slots Q (F0 m pc ls (.int (nI j) :: .ref (r k) :: rest)) := by
  rw [← va_up_id R j] at hP
  exact jld hx hb hK hP k hk hj hv hdg kk
end JobRows
/-! what a row of the job table becomes -/
def rNeed (row : Nat → Int32) : Int32 := if row 6 < row 8 then row 0 - row 8 + row 6 else row 0
def rLose (row : Nat → Int32) : Nat → Int32 := va_up (va_up (va_up (va_up (va_up row 10 (row 10 + row 9)) 9 0) 21 0) 20 0) 22 0
def rKeep (row : Nat → Int32) : Nat → Int32 := va_up (va_up (va_up row 8 (row 8 + row 9)) 9 0) 22 0
def rInc (k : Nat) (x : Nat → Int32) : Nat → Int32 := va_up x k (x k + 1)
def rDec (k : Nat) (x : Nat → Int32) : Nat → Int32 := va_up x k (x k - 1)
def rFullB (x : Nat → Int32) : Nat → Int32 := if x 8 ≤ x 6 then va_up (va_up x 10 (x 10 + x 8)) 8 0 else va_up x 20 (x 6)
def rFull1 (row : Nat → Int32) : Nat → Int32 := if row 17 = 2 then row else rFullB (va_up (rLose row) 17 2)
def rFullC (x : Nat → Int32) : Nat → Int32 := if x 20 ≤ 0 then rInc 8 (rInc 11 x) else rInc 12 (rDec 20 x)
def rPay (full : Int32) (x : Nat → Int32) : Nat → Int32 := rInc 16 (va_up x 15 (x 15 + full))
def rAtFull (full : Int32) (row : Nat → Int32) : Nat → Int32 := rFullC (rPay full (rFull1 row))
def rMkT (x : Nat → Int32) : Nat → Int32 := if x 8 ≤ 0 then va_up x 20 0 else va_up x 20 (x 6)
def rMkA (row : Nat → Int32) : Nat → Int32 := if row 17 = 1 then row else rMkT (va_up (va_up row 17 1) 22 0)
def rMkS (x : Nat → Int32) : Nat → Int32 := if x 21 = 0 then rKeep x else x
def rMkW (x : Nat → Int32) : Nat → Int32 := if x 4 ≤ x 22 then rMkS (va_up x 21 (x 5)) else if x 0 ≤ x 8 + x 9 then rMkS (va_up x 21 (x 5)) else x
def rMkB (x : Nat → Int32) : Nat → Int32 :=
  if x 20 ≤ 0 then (if x 21 ≤ 0 then rMkW (rInc 22 (rInc 9 (rInc 11 x))) else rMkS (rInc 13 (rDec 21 x))) else rInc 12 (rDec 20 x)
def rMkP (p0 : Int32) (x : Nat → Int32) : Nat → Int32 := va_up x 15 (x 15 + p0)
def rAtMarket (p0 : Int32) (row : Nat → Int32) : Nat → Int32 := rMkB (rMkP p0 (rMkA row))
def rGuard (nw : Nat) (row : Nat → Int32) : Int32 := if row 23 = 0 then (if rNeed row < row 1 - nI nw then 0 else 1) else 1
theorem rGuard_nar (nw : Nat) (row : Nat → Int32) : vp_nar .boolean (rGuard nw row) = rGuard nw row := by
  unfold rGuard
  split
  · split <;> rfl
  · rfl
def rWait (x : Nat → Int32) : Nat → Int32 := if x 17 = 1 then rInc 14 (va_up (rLose (rInc 19 x)) 17 0) else rInc 14 x
def rTurn (full p : Int32) (x : Nat → Int32) : Nat → Int32 := if x 23 = 0 then (if p = -1 then rWait x else if p ≤ x 3 then rAtMarket p x else rWait x) else rAtFull full x
def rDone (nw : Nat) (y : Nat → Int32) : Nat → Int32 := if y 0 ≤ y 8 then va_up (va_up y 18 (nI (nw + 1))) 17 0 else y
def rHour (full p : Int32) (nw : Nat) (row : Nat → Int32) : Nat → Int32 := rDone nw (rTurn full p (va_up row 23 (rGuard nw row)))
/-- what 'told' answers of a row -/
def tellV (row : Nat → Int32) (y : Int32) : Int32 := if y = 0 then row 8 else if y = 1 then row 9 else if y = 2 then row 10 else if y = 3 then row 11 else if y = 4 then row 12 else if y = 5 then row 13 else if y = 6 then row 14 else if y = 7 then row 15 else if y = 8 then row 16 else if y = 9 then row 17 else if y = 10 then row 18 else if y = 11 then rNeed row else if y = 12 then row 19 else -1
def toldV (n : Nat) (R : Nat → Nat → Int32) (x y : Int32) : Int32 := if wi x 0 (nI n - 1) = 0 then -1 else tellV (R x.toNatClampNeg) y
theorem isJob_nat {x : Int32} {n : Nat} (hn : n ≤ 12) (h : ¬ wi x 0 (nI n - 1) = 0) : ∃ j, j < n ∧ x = nI j := by
  rcases Nat.eq_zero_or_pos n with rfl | h0
  · obtain ⟨h1, h2⟩ := wi_t h
    have h3 := Int32.le_iff_toInt_le.mp h1
    have h4 := Int32.le_iff_toInt_le.mp h2
    have e1 : (nI 0 - 1 : Int32).toInt = -1 := by decide
    have e2 : (0 : Int32).toInt = 0 := by decide
    omega
  · rw [show nI n - 1 = nI (n - 1) from pk_sub (b := 1) (by omega)] at h
    obtain ⟨j, -, h2, rfl⟩ := wi_nat (a := 0) (by decide) (by omega) h
    exact ⟨j, by omega, rfl⟩
def rdyN (R : Nat → Nat → Int32) : Nat → Int32
  | 0 => 0
  | n + 1 => if R n 18 = -1 then rdyN R n + 0 else rdyN R n + 1
def paidN (R : Nat → Nat → Int32) : Nat → Int32
  | 0 => 0
  | n + 1 => paidN R n + R n 15
def countV (nw n : Nat) (full lev : Int32) (R : Nat → Nat → Int32) (y : Int32) : Int32 := if y = 0 then nI nw else if y = 1 then nI n else if y = 2 then rdyN R n else if y = 3 then paidN R n else if y = 4 then lev else if y = 5 then full else -1
/-- one hour of the jobs 0 .. j - 1; k hours -/
def hrs (full : Int32) (pr : Nat → Int32) (nw : Nat) : Nat → (Nat → Nat → Int32) → Nat → Nat → Int32
  | 0, R => R
  | j + 1, R => if hrs full pr nw j R j 18 = -1 then va_up (hrs full pr nw j R) j (rHour full (pr (200 * (hrs full pr nw j R j 2).toNatClampNeg + nw)) nw (hrs full pr nw j R j)) else hrs full pr nw j R
def goF (full : Int32) (pr : Nat → Int32) (n : Nat) : Nat → Nat → (Nat → Nat → Int32) → Nat → Nat → Int32
  | 0, _, R => R
  | k + 1, nw, R => if nw < 200 then goF full pr n k (nw + 1) (hrs full pr nw n R) else R
def goN : Nat → Nat → Nat
  | 0, nw => nw
  | k + 1, nw => if nw < 200 then goN k (nw + 1) else nw
theorem goN_le : ∀ (k nw : Nat), nw ≤ 200 → goN k nw ≤ 200
  | 0, nw, h => h
  | k + 1, nw, h => by
    unfold goN
    split
    · exact goN_le k (nw + 1) (by omega)
    · exact h
/-- the fields of a job that never change -/
def jOk (row : Nat → Int32) : Prop := ∃ w d mk sv bg cm : Nat, (1 ≤ w ∧ w ≤ 30) ∧ d ≤ 200 ∧ mk < 3 ∧ sv ≤ 5 ∧ bg ≤ 5 ∧ cm + w ≤ d ∧ row 0 = nI w ∧ row 1 = nI d ∧ row 2 = nI mk ∧ row 5 = nI sv ∧ row 6 = nI bg ∧ row 7 = nI cm
theorem rKeep_fix {row : Nat → Int32} {k : Nat} (h : k < 8) : rKeep row k = row k := by
  unfold rKeep; simp [va_up, show k ≠ 8 by omega, show k ≠ 9 by omega, show k ≠ 22 by omega]
theorem rLose_fix {row : Nat → Int32} {k : Nat} (h : k < 8) : rLose row k = row k := by
  unfold rLose; simp [va_up, show k ≠ 10 by omega, show k ≠ 9 by omega, show k ≠ 22 by omega, show k ≠ 21 by omega, show k ≠ 20 by omega]
theorem up_fix {row : Nat → Int32} {k i : Nat} {v : Int32} (h : k < 8) (hi : 8 ≤ i) : va_up row i v k = row k := by simp [va_up, show k ≠ i by omega]
theorem rInc_fix {row : Nat → Int32} {k i : Nat} (h : k < 8) (hi : 8 ≤ i) : rInc i row k = row k := up_fix h hi
theorem rDec_fix {row : Nat → Int32} {k i : Nat} (h : k < 8) (hi : 8 ≤ i) : rDec i row k = row k := up_fix h hi
theorem rAtFull_fix {full : Int32} {row : Nat → Int32} {k : Nat} (h : k < 8) : rAtFull full row k = row k := by
  have e1 : rFull1 row k = row k := by
    unfold rFull1 rFullB
    split
    · rfl
    · split
      · rw [up_fix h (by decide), up_fix h (by decide), up_fix h (by decide), rLose_fix h]
      · rw [up_fix h (by decide), up_fix h (by decide), rLose_fix h]
  unfold rAtFull rFullC rPay
  split
  · rw [rInc_fix h (by decide), rInc_fix h (by decide), rInc_fix h (by decide), up_fix h (by decide), e1]
  · rw [rInc_fix h (by decide), rDec_fix h (by decide), rInc_fix h (by decide), up_fix h (by decide), e1]
theorem rMkS_fix {row : Nat → Int32} {k : Nat} (h : k < 8) : rMkS row k = row k := by
  unfold rMkS
  split
  · exact rKeep_fix h
  · rfl
theorem rMkW_fix {row : Nat → Int32} {k : Nat} (h : k < 8) : rMkW row k = row k := by
  unfold rMkW
  split
  · rw [rMkS_fix h, up_fix h (by decide)]
  · split
    · rw [rMkS_fix h, up_fix h (by decide)]
    · rfl
theorem rAtMarket_fix {p0 : Int32} {row : Nat → Int32} {k : Nat} (h : k < 8) : rAtMarket p0 row k = row k := by
  have e1 : rMkA row k = row k := by
    unfold rMkA rMkT
    split
    · rfl
    · split <;> rw [up_fix h (by decide), up_fix h (by decide), up_fix h (by decide)]
  unfold rAtMarket rMkB rMkP
  split
  · split
    · rw [rMkW_fix h, rInc_fix h (by decide), rInc_fix h (by decide), rInc_fix h (by decide), up_fix h (by decide), e1]
    · rw [rMkS_fix h, rInc_fix h (by decide), rDec_fix h (by decide), up_fix h (by decide), e1]
  · rw [rInc_fix h (by decide), rDec_fix h (by decide), up_fix h (by decide), e1]
theorem rHour_fix {full p : Int32} {nw : Nat} {row : Nat → Int32} {k : Nat} (h : k < 8) : rHour full p nw row k = row k := by
  have ew : ∀ x : Nat → Int32, rWait x k = x k := by
    intro x
    unfold rWait
    split
    · rw [rInc_fix h (by decide), up_fix h (by decide), rLose_fix h, rInc_fix h (by decide)]
    · rw [rInc_fix h (by decide)]
  have et : rTurn full p (va_up row 23 (rGuard nw row)) k = row k := by
    unfold rTurn
    split
    · split
      · rw [ew, up_fix h (by decide)]
      · split
        · rw [rAtMarket_fix h, up_fix h (by decide)]
        · rw [ew, up_fix h (by decide)]
    · rw [rAtFull_fix h, up_fix h (by decide)]
  unfold rHour rDone
  split
  · rw [up_fix h (by decide), up_fix h (by decide), et]
  · exact et
theorem hrs_fix {full : Int32} {pr : Nat → Int32} {nw : Nat} (R : Nat → Nat → Int32) (i k : Nat) (h : k < 8) : ∀ j, hrs full pr nw j R i k = R i k
  | 0 => rfl
  | j + 1 => by
    unfold hrs
    split
    · by_cases hi : i = j
      · subst hi; rw [va_up_self, rHour_fix h, hrs_fix R i k h i]
      · rw [va_up_ne _ _ hi, hrs_fix R i k h j]
    · exact hrs_fix R i k h j
theorem jOk_of {row row' : Nat → Int32} (h : jOk row) (e : ∀ k, k < 8 → row' k = row k) : jOk row' := by
  obtain ⟨w, d, mk, sv, bg, cm, h1, h2, h3, h4, h5, h6, e0, e1, e2, e5, e6, e7⟩ := h
  exact ⟨w, d, mk, sv, bg, cm, h1, h2, h3, h4, h5, h6, (e 0 (by decide)).trans e0, (e 1 (by decide)).trans e1, (e 2 (by decide)).trans e2, (e 5 (by decide)).trans e5, (e 6 (by decide)).trans e6, (e 7 (by decide)).trans e7⟩
def goV (nw : Nat) (x : Int32) : Int32 := if wi x 0 200 = 0 then -1 else nI (goN x.toNatClampNeg nw)
def goW (nw : Nat) (x : Int32) : Nat := if wi x 0 200 = 0 then nw else goN x.toNatClampNeg nw
def goR (full : Int32) (pr : Nat → Int32) (n nw : Nat) (x : Int32) (R : Nat → Nat → Int32) : Nat → Nat → Int32 := if wi x 0 200 = 0 then R else goF full pr n x.toNatClampNeg nw R
theorem goN_s {k nw : Nat} (h : nw < 200) : goN (k + 1) nw = goN k (nw + 1) := if_pos h
theorem goN_x {k nw : Nat} (h : k = 0 ∨ 200 ≤ nw) : goN k nw = nw := by
  cases k with
  | zero => rfl
  | succ k => exact if_neg (by omega)
theorem goF_s {full : Int32} {pr : Nat → Int32} {n k nw : Nat} {R : Nat → Nat → Int32} (h : nw < 200) : goF full pr n (k + 1) nw R = goF full pr n k (nw + 1) (hrs full pr nw n R) := if_pos h
theorem goF_x {full : Int32} {pr : Nat → Int32} {n k nw : Nat} {R : Nat → Nat → Int32} (h : k = 0 ∨ 200 ≤ nw) : goF full pr n k nw R = R := by
  cases k with
  | zero => rfl
  | succ k => exact if_neg (by omega)
/-- prices put for a market's hours -/
def prOk (x f t p : Int32) (nw : Nat) : Int32 := if wi x 0 2 = 0 then 0 else if wi p (-1) 999 = 0 then 0 else if wi f (nI nw) 199 = 0 then 0 else if wi t f 199 = 0 then 0 else 1
def setR (pr : Nat → Int32) (lo hi : Nat) (p : Int32) : Nat → Int32 := fun i => if lo ≤ i ∧ i ≤ hi then p else pr i
def prW (pr : Nat → Int32) (x f t p : Int32) (nw : Nat) : Nat → Int32 := if prOk x f t p nw = 0 then pr else setR pr (200 * x.toNatClampNeg + f.toNatClampNeg) (200 * x.toNatClampNeg + t.toNatClampNeg) p
theorem setR_0 (pr : Nat → Int32) {lo hi : Nat} (p : Int32) (h : hi < lo) : setR pr lo hi p = pr := by
  funext i
  simp only [setR]
  rw [if_neg (by omega)]
theorem setR_s (pr : Nat → Int32) {lo hi : Nat} (p : Int32) (h : lo ≤ hi + 1) : upd (fun i => if lo ≤ i ∧ i < hi + 1 then p else pr i) (hi + 1) p = fun i => if lo ≤ i ∧ i < hi + 2 then p else pr i := by
  funext i
  simp only [upd]
  by_cases h1 : i = hi + 1
  · rw [if_pos h1, if_pos (by omega)]
  · rw [if_neg h1]
    by_cases h2 : lo ≤ i ∧ i < hi + 1
    · rw [if_pos h2, if_pos (by omega)]
    · rw [if_neg h2, if_neg (by omega)]
/-- the first e prices from lo on are p -/
def setE (pr : Nat → Int32) (lo e : Nat) (p : Int32) : Nat → Int32 := fun i => if lo ≤ i ∧ i < lo + e then p else pr i
theorem setE_0 (pr : Nat → Int32) (lo : Nat) (p : Int32) : setE pr lo 0 p = pr := by
  funext i; simp only [setE]; rw [if_neg (by omega)]
theorem setE_s (pr : Nat → Int32) (lo e : Nat) (p : Int32) : upd (setE pr lo e p) (lo + e) p = setE pr lo (e + 1) p := by
  funext i
  simp only [upd, setE]
  by_cases h1 : i = lo + e
  · rw [if_pos h1, if_pos (by omega)]
  · rw [if_neg h1]
    by_cases h2 : lo ≤ i ∧ i < lo + e
    · rw [if_pos h2, if_pos (by omega)]
    · rw [if_neg h2, if_neg (by omega)]
theorem setE_R (pr : Nat → Int32) (lo e hi : Nat) (p : Int32) (h : lo + e = hi + 1) : setE pr lo e p = setR pr lo hi p := by
  funext i
  simp only [setE, setR]
  by_cases h2 : lo ≤ i ∧ i < lo + e
  · rw [if_pos h2, if_pos (by omega)]
  · rw [if_neg h2, if_neg (by omega)]
theorem prOk_nat {x f t p : Int32} {nw : Nat} (hnw : nw ≤ 200) (h : ¬ prOk x f t p nw = 0) : ∃ mk fr to : Nat, mk < 3 ∧ nw ≤ fr ∧ fr ≤ to ∧ to < 200 ∧ x = nI mk ∧ f = nI fr ∧ t = nI to := by
  unfold prOk at h
  by_cases h1 : wi x 0 2 = 0
  · rw [if_pos h1] at h; exact absurd rfl h
  rw [if_neg h1] at h
  by_cases h2 : wi p (-1) 999 = 0
  · rw [if_pos h2] at h; exact absurd rfl h
  rw [if_neg h2] at h
  by_cases h3 : wi f (nI nw) 199 = 0
  · rw [if_pos h3] at h; exact absurd rfl h
  rw [if_neg h3] at h
  by_cases h4 : wi t f 199 = 0
  · rw [if_pos h4] at h; exact absurd rfl h
  obtain ⟨mk, -, a2, rfl⟩ := wi_nat (a := 0) (b := 2) (by decide) (by decide) h1
  obtain ⟨fr, b1, b2, rfl⟩ := wi_nat (b := 199) (by omega) (by decide) h3
  obtain ⟨to, c1, c2, rfl⟩ := wi_nat (b := 199) (by omega) (by decide) h4
  exact ⟨mk, fr, to, by omega, b1, c1, by omega, rfl, rfl, rfl⟩
def fuOk (x : Int32) (nw n : Nat) : Int32 := if wi x 1 999 = 0 then 0 else if 0 < nw then 0 else if n = 0 then 1 else 0
def fuW (full x : Int32) (nw n : Nat) : Int32 := if fuOk x nw n = 0 then full else x
set_option maxHeartbeats 4000000 in
set_option maxRecDepth 100000 in
theorem c_X7_loses (l : Launch) (D : va_G) (cI cL cZ cO : ClassId) (sz : Nat) (a : Nat) (r : Nat → Nat) (now full jobs lev : Int32) (pr : Nat → Int32) (R : Nat → Nat → Int32) (lp ch : Nat → Int32) (me : Nat → Int64) (ru wo co : Nat → Int32) (j : Nat) (row : Nat → Int32) (hj : j < 12) : Met l yX7_loses wsX7_loses ({ frames := 0, cells := 0, slots := 0, locals := 0 } : Room) (va_Pc [.ref a, .int (nI j)] (Rw D cI cL cZ cO (wM cI cL cZ a r now full jobs lev pr (va_up R j row) lp ch me ru wo co) sz)) (va_Qv (fun (u : Unit) => True) (fun (u : Unit) => Wo D (va_A (wM cI cL cZ a r now full jobs lev pr (va_up R j row) lp ch me ru wo co) sz) (wM cI cL cZ a r now full jobs lev pr (va_up R j (rLose row)) lp ch me ru wo co)) (va_A (wM cI cL cZ a r now full jobs lev pr (va_up R j row) lp ch me ru wo co) sz)) 0 0 (va_A (wM cI cL cZ a r now full jobs lev pr (va_up R j row) lp ch me ru wo co) sz) := by
  refine Met.ofW (cc := cX7_loses) (maxL := 2) (ret := none) (by decide) rfl ?_
  intro p e s m args below meth c s₁ B hml hv
  obtain ⟨rfl, hsz, hP, hO, hD0⟩ := hv
  have hx := B.exec
  have hb := B.bytes
  have hr := B.returns
  have hts := atoms_spec (ws := wsX7_loses) B.pre
  have hown : s.vm.findClass RX7 = some m.cls := findClass_of_methodNamed B.named
  have hlocks := B.notSynchronized
  have hK := hO.1
  subst hsz
  have hD := hD0.self (sz := s.heap.size)
  generalize hAe : va_A (wM cI cL cZ a r now full jobs lev pr (va_up R j row) lp ch me ru wo co) s.heap.size = A at hD ⊢
  have hA : ∀ q : Nat, s.heap.size ≤ q → A q := fun q h => by rw [← hAe]; exact Or.inr h
  have hS : va_S A s.heap s.heap [] := va_S.rf
  have hl := lv_entry ([.ref a, .int (nI j)]) (n := 2) (Nat.le_of_ble_eq_true rfl)
  rw [lg_entry_eq]
  generalize (lg_sl ([.ref a, .int (nI j)]) ++ List.replicate (2 - (lg_sl ([.ref a, .int (nI j)])).length) Slot.unset).toArray = ls at hl ⊢
  have hl : lv_has ls 2 [(0, .ref a), (1, .int (nI j))] := hl
  generalize hQQ : MQ below _ _ s _ _ _ = QQ
  refine lv_aload_n hx hb dX7_loses_0 rfl (lv_at hl 0 rfl) ?_
  refine va_get (D := D) (cl := vwCl) (ci := 6) (v := .ref (r 10)) (C := RX7) (T := TX7) (N := 35) hx hb hts (fun _ h => List.mem_cons_of_mem _ (List.mem_append_right _ h)) hown hK hP 0 rfl rfl 14 (by decide) (hts (.fieldLink RX7 47 "CheapHoursModel" "lost" "[I") (by decide +kernel)) (fun _ h9 => h9) rfl dX7_loses_1 ?_
  refine lv_iload_n hx hb dX7_loses_4 rfl (lv_at hl 1 rfl) ?_
  refine lv_dup2_11 hx hb dX7_loses_5 rfl rfl ?_
  refine jld (v := (row 10)) hx hb hK hP 10 (by decide) hj rfl dX7_loses_6 ?_
  refine lv_aload_n hx hb dX7_loses_7 rfl (lv_at hl 0 rfl) ?_
  refine va_get (D := D) (cl := vwCl) (ci := 6) (v := .ref (r 9)) (C := RX7) (T := TX7) (N := 35) hx hb hts (fun _ h => List.mem_cons_of_mem _ (List.mem_append_right _ h)) hown hK hP 0 rfl rfl 13 (by decide) (hts (.fieldLink RX7 44 "CheapHoursModel" "done" "[I") (by decide +kernel)) (fun _ h9 => h9) rfl dX7_loses_8 ?_
  refine lv_iload_n hx hb dX7_loses_11 rfl (lv_at hl 1 rfl) ?_
  refine jld (v := (row 9)) hx hb hK hP 9 (by decide) hj rfl dX7_loses_12 ?_
  refine lv_iadd hx hb dX7_loses_13 ?_
  refine jst hx hb hK hP hD hS 10 (by decide) hj dX7_loses_14 (fun H locs hP hD hS => ?_)
  obtain ⟨x14, ex14⟩ : ∃ z : Nat → Int32, z = va_up row 10 ((row 10) + (row 9)) := ⟨_, rfl⟩
  rw [← ex14] at hP hD
  refine lv_aload_n hx hb dX7_loses_15 rfl (lv_at hl 0 rfl) ?_
  refine va_get (D := D) (cl := vwCl) (ci := 6) (v := .ref (r 9)) (C := RX7) (T := TX7) (N := 35) hx hb hts (fun _ h => List.mem_cons_of_mem _ (List.mem_append_right _ h)) hown hK hP 0 rfl rfl 13 (by decide) (hts (.fieldLink RX7 44 "CheapHoursModel" "done" "[I") (by decide +kernel)) (fun _ h9 => h9) rfl dX7_loses_16 ?_
  refine lv_iload_n hx hb dX7_loses_19 rfl (lv_at hl 1 rfl) ?_
  refine lv_iconst (v := 0) hx hb dX7_loses_20 (by decide) ?_
  refine jst hx hb hK hP hD hS 9 (by decide) hj dX7_loses_21 (fun H locs hP hD hS => ?_)
  obtain ⟨x21, ex21⟩ : ∃ z : Nat → Int32, z = va_up x14 9 0 := ⟨_, rfl⟩
  rw [← ex21] at hP hD
  refine lv_aload_n hx hb dX7_loses_22 rfl (lv_at hl 0 rfl) ?_
  refine va_get (D := D) (cl := vwCl) (ci := 6) (v := .ref (r 21)) (C := RX7) (T := TX7) (N := 35) hx hb hts (fun _ h => List.mem_cons_of_mem _ (List.mem_append_right _ h)) hown hK hP 0 rfl rfl 25 (by decide) (hts (.fieldLink RX7 80 "CheapHoursModel" "toSave" "[I") (by decide +kernel)) (fun _ h9 => h9) rfl dX7_loses_23 ?_
  refine lv_iload_n hx hb dX7_loses_26 rfl (lv_at hl 1 rfl) ?_
  refine lv_iconst (v := 0) hx hb dX7_loses_27 (by decide) ?_
  refine jst hx hb hK hP hD hS 21 (by decide) hj dX7_loses_28 (fun H locs hP hD hS => ?_)
  obtain ⟨x28, ex28⟩ : ∃ z : Nat → Int32, z = va_up x21 21 0 := ⟨_, rfl⟩
  rw [← ex28] at hP hD
  refine lv_aload_n hx hb dX7_loses_29 rfl (lv_at hl 0 rfl) ?_
  refine va_get (D := D) (cl := vwCl) (ci := 6) (v := .ref (r 20)) (C := RX7) (T := TX7) (N := 35) hx hb hts (fun _ h => List.mem_cons_of_mem _ (List.mem_append_right _ h)) hown hK hP 0 rfl rfl 24 (by decide) (hts (.fieldLink RX7 77 "CheapHoursModel" "toBring" "[I") (by decide +kernel)) (fun _ h9 => h9) rfl dX7_loses_30 ?_
  refine lv_iload_n hx hb dX7_loses_33 rfl (lv_at hl 1 rfl) ?_
  refine lv_iconst (v := 0) hx hb dX7_loses_34 (by decide) ?_
  refine jst hx hb hK hP hD hS 20 (by decide) hj dX7_loses_35 (fun H locs hP hD hS => ?_)
  obtain ⟨x35, ex35⟩ : ∃ z : Nat → Int32, z = va_up x28 20 0 := ⟨_, rfl⟩
  rw [← ex35] at hP hD
  refine lv_aload_n hx hb dX7_loses_36 rfl (lv_at hl 0 rfl) ?_
  refine va_get (D := D) (cl := vwCl) (ci := 6) (v := .ref (r 22)) (C := RX7) (T := TX7) (N := 35) hx hb hts (fun _ h => List.mem_cons_of_mem _ (List.mem_append_right _ h)) hown hK hP 0 rfl rfl 26 (by decide) (hts (.fieldLink RX7 83 "CheapHoursModel" "since" "[I") (by decide +kernel)) (fun _ h9 => h9) rfl dX7_loses_37 ?_
  refine lv_iload_n hx hb dX7_loses_40 rfl (lv_at hl 1 rfl) ?_
  refine lv_iconst (v := 0) hx hb dX7_loses_41 (by decide) ?_
  refine jst hx hb hK hP hD hS 22 (by decide) hj dX7_loses_42 (fun H locs hP hD hS => ?_)
  obtain ⟨x42, ex42⟩ : ∃ z : Nat → Int32, z = va_up x35 22 0 := ⟨_, rfl⟩
  rw [← ex42] at hP hD
  have hrow : rLose row = x42 := by
    subst_vars
    rfl
  rw [← hrow] at hP hD
  rw [← hQQ]
  exact W.vret hx hb hr (fun t9 ht9 hW9 => ⟨⟨(), rfl, trivial, by rw [ht9]; exact hP, hD⟩, hS.F ht9⟩) hS.2.2 dX7_loses_43
set_option maxHeartbeats 4000000 in
set_option maxRecDepth 100000 in
theorem c_X7_keeps (l : Launch) (D : va_G) (cI cL cZ cO : ClassId) (sz : Nat) (a : Nat) (r : Nat → Nat) (now full jobs lev : Int32) (pr : Nat → Int32) (R : Nat → Nat → Int32) (lp ch : Nat → Int32) (me : Nat → Int64) (ru wo co : Nat → Int32) (j : Nat) (row : Nat → Int32) (hj : j < 12) : Met l yX7_keeps wsX7_keeps ({ frames := 0, cells := 0, slots := 0, locals := 0 } : Room) (va_Pc [.ref a, .int (nI j)] (Rw D cI cL cZ cO (wM cI cL cZ a r now full jobs lev pr (va_up R j row) lp ch me ru wo co) sz)) (va_Qv (fun (u : Unit) => True) (fun (u : Unit) => Wo D (va_A (wM cI cL cZ a r now full jobs lev pr (va_up R j row) lp ch me ru wo co) sz) (wM cI cL cZ a r now full jobs lev pr (va_up R j (rKeep row)) lp ch me ru wo co)) (va_A (wM cI cL cZ a r now full jobs lev pr (va_up R j row) lp ch me ru wo co) sz)) 0 0 (va_A (wM cI cL cZ a r now full jobs lev pr (va_up R j row) lp ch me ru wo co) sz) := by
  refine Met.ofW (cc := cX7_keeps) (maxL := 2) (ret := none) (by decide) rfl ?_
  intro p e s m args below meth c s₁ B hml hv
  obtain ⟨rfl, hsz, hP, hO, hD0⟩ := hv
  have hx := B.exec
  have hb := B.bytes
  have hr := B.returns
  have hts := atoms_spec (ws := wsX7_keeps) B.pre
  have hown : s.vm.findClass RX7 = some m.cls := findClass_of_methodNamed B.named
  have hlocks := B.notSynchronized
  have hK := hO.1
  subst hsz
  have hD := hD0.self (sz := s.heap.size)
  generalize hAe : va_A (wM cI cL cZ a r now full jobs lev pr (va_up R j row) lp ch me ru wo co) s.heap.size = A at hD ⊢
  have hA : ∀ q : Nat, s.heap.size ≤ q → A q := fun q h => by rw [← hAe]; exact Or.inr h
  have hS : va_S A s.heap s.heap [] := va_S.rf
  have hl := lv_entry ([.ref a, .int (nI j)]) (n := 2) (Nat.le_of_ble_eq_true rfl)
  rw [lg_entry_eq]
  generalize (lg_sl ([.ref a, .int (nI j)]) ++ List.replicate (2 - (lg_sl ([.ref a, .int (nI j)])).length) Slot.unset).toArray = ls at hl ⊢
  have hl : lv_has ls 2 [(0, .ref a), (1, .int (nI j))] := hl
  generalize hQQ : MQ below _ _ s _ _ _ = QQ
  refine lv_aload_n hx hb dX7_keeps_0 rfl (lv_at hl 0 rfl) ?_
  refine va_get (D := D) (cl := vwCl) (ci := 6) (v := .ref (r 8)) (C := RX7) (T := TX7) (N := 35) hx hb hts (fun _ h => List.mem_cons_of_mem _ (List.mem_append_right _ h)) hown hK hP 0 rfl rfl 12 (by decide) (hts (.fieldLink RX7 41 "CheapHoursModel" "saved" "[I") (by decide +kernel)) (fun _ h9 => h9) rfl dX7_keeps_1 ?_
  refine lv_iload_n hx hb dX7_keeps_4 rfl (lv_at hl 1 rfl) ?_
  refine lv_dup2_11 hx hb dX7_keeps_5 rfl rfl ?_
  refine jld (v := (row 8)) hx hb hK hP 8 (by decide) hj rfl dX7_keeps_6 ?_
  refine lv_aload_n hx hb dX7_keeps_7 rfl (lv_at hl 0 rfl) ?_
  refine va_get (D := D) (cl := vwCl) (ci := 6) (v := .ref (r 9)) (C := RX7) (T := TX7) (N := 35) hx hb hts (fun _ h => List.mem_cons_of_mem _ (List.mem_append_right _ h)) hown hK hP 0 rfl rfl 13 (by decide) (hts (.fieldLink RX7 44 "CheapHoursModel" "done" "[I") (by decide +kernel)) (fun _ h9 => h9) rfl dX7_keeps_8 ?_
  refine lv_iload_n hx hb dX7_keeps_11 rfl (lv_at hl 1 rfl) ?_
  refine jld (v := (row 9)) hx hb hK hP 9 (by decide) hj rfl dX7_keeps_12 ?_
  refine lv_iadd hx hb dX7_keeps_13 ?_
  refine jst hx hb hK hP hD hS 8 (by decide) hj dX7_keeps_14 (fun H locs hP hD hS => ?_)
  obtain ⟨x14, ex14⟩ : ∃ z : Nat → Int32, z = va_up row 8 ((row 8) + (row 9)) := ⟨_, rfl⟩
  rw [← ex14] at hP hD
  refine lv_aload_n hx hb dX7_keeps_15 rfl (lv_at hl 0 rfl) ?_
  refine va_get (D := D) (cl := vwCl) (ci := 6) (v := .ref (r 9)) (C := RX7) (T := TX7) (N := 35) hx hb hts (fun _ h => List.mem_cons_of_mem _ (List.mem_append_right _ h)) hown hK hP 0 rfl rfl 13 (by decide) (hts (.fieldLink RX7 44 "CheapHoursModel" "done" "[I") (by decide +kernel)) (fun _ h9 => h9) rfl dX7_keeps_16 ?_
  refine lv_iload_n hx hb dX7_keeps_19 rfl (lv_at hl 1 rfl) ?_
  refine lv_iconst (v := 0) hx hb dX7_keeps_20 (by decide) ?_
  refine jst hx hb hK hP hD hS 9 (by decide) hj dX7_keeps_21 (fun H locs hP hD hS => ?_)
  obtain ⟨x21, ex21⟩ : ∃ z : Nat → Int32, z = va_up x14 9 0 := ⟨_, rfl⟩
  rw [← ex21] at hP hD
  refine lv_aload_n hx hb dX7_keeps_22 rfl (lv_at hl 0 rfl) ?_
  refine va_get (D := D) (cl := vwCl) (ci := 6) (v := .ref (r 22)) (C := RX7) (T := TX7) (N := 35) hx hb hts (fun _ h => List.mem_cons_of_mem _ (List.mem_append_right _ h)) hown hK hP 0 rfl rfl 26 (by decide) (hts (.fieldLink RX7 83 "CheapHoursModel" "since" "[I") (by decide +kernel)) (fun _ h9 => h9) rfl dX7_keeps_23 ?_
  refine lv_iload_n hx hb dX7_keeps_26 rfl (lv_at hl 1 rfl) ?_
  refine lv_iconst (v := 0) hx hb dX7_keeps_27 (by decide) ?_
  refine jst hx hb hK hP hD hS 22 (by decide) hj dX7_keeps_28 (fun H locs hP hD hS => ?_)
  obtain ⟨x28, ex28⟩ : ∃ z : Nat → Int32, z = va_up x21 22 0 := ⟨_, rfl⟩
  rw [← ex28] at hP hD
  have hrow : rKeep row = x28 := by
    subst_vars
    rfl
  rw [← hrow] at hP hD
  rw [← hQQ]
  exact W.vret hx hb hr (fun t9 ht9 hW9 => ⟨⟨(), rfl, trivial, by rw [ht9]; exact hP, hD⟩, hS.F ht9⟩) hS.2.2 dX7_keeps_29
set_option maxHeartbeats 4000000 in
set_option maxRecDepth 100000 in
theorem c_X7_need (l : Launch) (D : va_G) (cI cL cZ cO : ClassId) (a : Nat) (r : Nat → Nat) (now full jobs lev : Int32) (pr : Nat → Int32) (R : Nat → Nat → Int32) (lp ch : Nat → Int32) (me : Nat → Int64) (ru wo co : Nat → Int32) (j : Nat) (row : Nat → Int32) (hj : j < 12) : Met l yX7_need wsX7_need ({ frames := 0, cells := 0, slots := 0, locals := 0 } : Room) (va_Pc [.ref a, .int (nI j)] (Ro D cI cL cZ cO (wM cI cL cZ a r now full jobs lev pr (va_up R j row) lp ch me ru wo co))) (vp_Si (fun r => r = rNeed row)) 0 0 (fun _ => False) := by
  refine Met.ofW (cc := cX7_need) (maxL := 2) (ret := (some .int)) (by decide) rfl ?_
  intro p e s m args below meth c s₁ B hml hv
  obtain ⟨rfl, hP, hO⟩ := hv
  have hx := B.exec
  have hb := B.bytes
  have hr := B.returns
  have hts := atoms_spec (ws := wsX7_need) B.pre
  have hown : s.vm.findClass RX7 = some m.cls := findClass_of_methodNamed B.named
  have hlocks := B.notSynchronized
  have hK := hO.1
  have hl := lv_entry ([.ref a, .int (nI j)]) (n := 2) (Nat.le_of_ble_eq_true rfl)
  rw [lg_entry_eq]
  generalize (lg_sl ([.ref a, .int (nI j)]) ++ List.replicate (2 - (lg_sl ([.ref a, .int (nI j)])).length) Slot.unset).toArray = ls at hl ⊢
  have hl : lv_has ls 2 [(0, .ref a), (1, .int (nI j))] := hl
  generalize hQQ : MQ below _ _ s _ _ _ = QQ
  refine lv_aload_n hx hb dX7_need_0 rfl (lv_at hl 0 rfl) ?_
  refine va_get (D := D) (cl := vwCl) (ci := 6) (v := .ref (r 8)) (C := RX7) (T := TX7) (N := 35) hx hb hts (fun _ h => List.mem_cons_of_mem _ (List.mem_append_right _ h)) hown hK hP 0 rfl rfl 12 (by decide) (hts (.fieldLink RX7 41 "CheapHoursModel" "saved" "[I") (by decide +kernel)) (fun _ h9 => h9) rfl dX7_need_1 ?_
  refine lv_iload_n hx hb dX7_need_4 rfl (lv_at hl 1 rfl) ?_
  refine jld (v := (row 8)) hx hb hK hP 8 (by decide) hj rfl dX7_need_5 ?_
  refine lv_aload_n hx hb dX7_need_6 rfl (lv_at hl 0 rfl) ?_
  refine va_get (D := D) (cl := vwCl) (ci := 6) (v := .ref (r 6)) (C := RX7) (T := TX7) (N := 35) hx hb hts (fun _ h => List.mem_cons_of_mem _ (List.mem_append_right _ h)) hown hK hP 0 rfl rfl 10 (by decide) (hts (.fieldLink RX7 35 "CheapHoursModel" "bring" "[I") (by decide +kernel)) (fun _ h9 => h9) rfl dX7_need_7 ?_
  refine lv_iload_n hx hb dX7_need_10 rfl (lv_at hl 1 rfl) ?_
  refine jld (v := (row 6)) hx hb hK hP 6 (by decide) hj rfl dX7_need_11 ?_
  refine lv_icmp_le (tgt := 38) hx hb dX7_need_12 (by decide) (fun c_12 => ?_) (fun c_12 => ?_)
  · skip
    refine lv_aload_n hx hb dX7_need_38 rfl (lv_at hl 0 rfl) ?_
    refine va_get (D := D) (cl := vwCl) (ci := 6) (v := .ref (r 0)) (C := RX7) (T := TX7) (N := 35) hx hb hts (fun _ h => List.mem_cons_of_mem _ (List.mem_append_right _ h)) hown hK hP 0 rfl rfl 4 (by decide) (hts (.fieldLink RX7 17 "CheapHoursModel" "work" "[I") (by decide +kernel)) (fun _ h9 => h9) rfl dX7_need_39 ?_
    refine lv_iload_n hx hb dX7_need_42 rfl (lv_at hl 1 rfl) ?_
    refine jld (v := (row 0)) hx hb hK hP 0 (by decide) hj rfl dX7_need_43 ?_
    rw [← hQQ]
    exact W.iret (v := (row 0)) hx hb hr (fun t9 ht9 hW9 => ⟨_, rfl, (if_neg (fun q => i32_nlt.mpr c_12 q)).symm, ht9⟩) (fun q h => by cases h) dX7_need_44
  · skip
    refine lv_aload_n hx hb dX7_need_15 rfl (lv_at hl 0 rfl) ?_
    refine va_get (D := D) (cl := vwCl) (ci := 6) (v := .ref (r 0)) (C := RX7) (T := TX7) (N := 35) hx hb hts (fun _ h => List.mem_cons_of_mem _ (List.mem_append_right _ h)) hown hK hP 0 rfl rfl 4 (by decide) (hts (.fieldLink RX7 17 "CheapHoursModel" "work" "[I") (by decide +kernel)) (fun _ h9 => h9) rfl dX7_need_16 ?_
    refine lv_iload_n hx hb dX7_need_19 rfl (lv_at hl 1 rfl) ?_
    refine jld (v := (row 0)) hx hb hK hP 0 (by decide) hj rfl dX7_need_20 ?_
    refine lv_aload_n hx hb dX7_need_21 rfl (lv_at hl 0 rfl) ?_
    refine va_get (D := D) (cl := vwCl) (ci := 6) (v := .ref (r 8)) (C := RX7) (T := TX7) (N := 35) hx hb hts (fun _ h => List.mem_cons_of_mem _ (List.mem_append_right _ h)) hown hK hP 0 rfl rfl 12 (by decide) (hts (.fieldLink RX7 41 "CheapHoursModel" "saved" "[I") (by decide +kernel)) (fun _ h9 => h9) rfl dX7_need_22 ?_
    refine lv_iload_n hx hb dX7_need_25 rfl (lv_at hl 1 rfl) ?_
    refine jld (v := (row 8)) hx hb hK hP 8 (by decide) hj rfl dX7_need_26 ?_
    refine lv_isub hx hb dX7_need_27 ?_
    refine lv_aload_n hx hb dX7_need_28 rfl (lv_at hl 0 rfl) ?_
    refine va_get (D := D) (cl := vwCl) (ci := 6) (v := .ref (r 6)) (C := RX7) (T := TX7) (N := 35) hx hb hts (fun _ h => List.mem_cons_of_mem _ (List.mem_append_right _ h)) hown hK hP 0 rfl rfl 10 (by decide) (hts (.fieldLink RX7 35 "CheapHoursModel" "bring" "[I") (by decide +kernel)) (fun _ h9 => h9) rfl dX7_need_29 ?_
    refine lv_iload_n hx hb dX7_need_32 rfl (lv_at hl 1 rfl) ?_
    refine jld (v := (row 6)) hx hb hK hP 6 (by decide) hj rfl dX7_need_33 ?_
    refine lv_iadd hx hb dX7_need_34 ?_
    refine lv_goto (tgt := 44) hx hb dX7_need_35 (by decide) ?_
    rw [← hQQ]
    exact W.iret (v := (((row 0) - (row 8)) + (row 6))) hx hb hr (fun t9 ht9 hW9 => ⟨_, rfl, (if_pos (i32_nle.mp c_12)).symm, ht9⟩) (fun q h => by cases h) dX7_need_44
set_option maxHeartbeats 4000000 in
set_option maxRecDepth 100000 in
theorem c_X7_atFull (l : Launch) (D : va_G) (cI cL cZ cO : ClassId) (sz : Nat) (a : Nat) (r : Nat → Nat) (now full jobs lev : Int32) (pr : Nat → Int32) (R : Nat → Nat → Int32) (lp ch : Nat → Int32) (me : Nat → Int64) (ru wo co : Nat → Int32) (j : Nat) (row : Nat → Int32) (hj : j < 12) : Met l yX7_atFull wsX7_atFull ({ frames := 1, cells := 0, slots := 0, locals := 21 } : Room) (va_Pc [.ref a, .int (nI j)] (Rw D cI cL cZ cO (wM cI cL cZ a r now full jobs lev pr (va_up R j row) lp ch me ru wo co) sz)) (va_Qv (fun (u : Unit) => True) (fun (u : Unit) => Wo D (va_A (wM cI cL cZ a r now full jobs lev pr (va_up R j row) lp ch me ru wo co) sz) (wM cI cL cZ a r now full jobs lev pr (va_up R j (rAtFull full row)) lp ch me ru wo co)) (va_A (wM cI cL cZ a r now full jobs lev pr (va_up R j row) lp ch me ru wo co) sz)) 0 0 (va_A (wM cI cL cZ a r now full jobs lev pr (va_up R j row) lp ch me ru wo co) sz) := by
  refine Met.ofW (cc := cX7_atFull) (maxL := 2) (ret := none) (by decide) rfl ?_
  intro p e s m args below meth c s₁ B hml hv
  obtain ⟨rfl, hsz, hP, hO, hD0⟩ := hv
  have hx := B.exec
  have hb := B.bytes
  have hr := B.returns
  have hts := atoms_spec (ws := wsX7_atFull) B.pre
  have hown : s.vm.findClass RX7 = some m.cls := findClass_of_methodNamed B.named
  have hlocks := B.notSynchronized
  have hK := hO.1
  subst hsz
  have hD := hD0.self (sz := s.heap.size)
  generalize hAe : va_A (wM cI cL cZ a r now full jobs lev pr (va_up R j row) lp ch me ru wo co) s.heap.size = A at hD ⊢
  have hA : ∀ q : Nat, s.heap.size ≤ q → A q := fun q h => by rw [← hAe]; exact Or.inr h
  have hS : va_S A s.heap s.heap [] := va_S.rf
  have hl := lv_entry ([.ref a, .int (nI j)]) (n := 2) (Nat.le_of_ble_eq_true rfl)
  rw [lg_entry_eq]
  generalize (lg_sl ([.ref a, .int (nI j)]) ++ List.replicate (2 - (lg_sl ([.ref a, .int (nI j)])).length) Slot.unset).toArray = ls at hl ⊢
  have hl : lv_has ls 2 [(0, .ref a), (1, .int (nI j))] := hl
  generalize hQQ : MQ below _ _ s _ _ _ = QQ
  refine lv_aload_n hx hb dX7_atFull_0 rfl (lv_at hl 0 rfl) ?_
  refine va_get (D := D) (cl := vwCl) (ci := 6) (v := .ref (r 17)) (C := RX7) (T := TX7) (N := 35) hx hb hts (fun _ h => List.mem_cons_of_mem _ (List.mem_append_right _ h)) hown hK hP 0 rfl rfl 21 (by decide) (hts (.fieldLink RX7 68 "CheapHoursModel" "place" "[I") (by decide +kernel)) (fun _ h9 => h9) rfl dX7_atFull_1 ?_
  refine lv_iload_n hx hb dX7_atFull_4 rfl (lv_at hl 1 rfl) ?_
  refine jld (v := (row 17)) hx hb hK hP 17 (by decide) hj rfl dX7_atFull_5 ?_
  refine lv_iconst (v := 2) hx hb dX7_atFull_6 (by decide) ?_
  refine lv_icmp_eq (tgt := 74) hx hb dX7_atFull_7 (by decide) (fun c_7 => ?_) (fun c_7 => ?_)
  · skip
    refine lv_aload_n hx hb dX7_atFull_74 rfl (lv_at hl 0 rfl) ?_
    refine va_get (D := D) (cl := vwCl) (ci := 6) (v := .ref (r 15)) (C := RX7) (T := TX7) (N := 35) hx hb hts (fun _ h => List.mem_cons_of_mem _ (List.mem_append_right _ h)) hown hK hP 0 rfl rfl 19 (by decide) (hts (.fieldLink RX7 62 "CheapHoursModel" "paid" "[I") (by decide +kernel)) (fun _ h9 => h9) rfl dX7_atFull_75 ?_
    refine lv_iload_n hx hb dX7_atFull_78 rfl (lv_at hl 1 rfl) ?_
    refine lv_dup2_11 hx hb dX7_atFull_79 rfl rfl ?_
    refine jld (v := (row 15)) hx hb hK hP 15 (by decide) hj rfl dX7_atFull_80 ?_
    refine lv_aload_n hx hb dX7_atFull_81 rfl (lv_at hl 0 rfl) ?_
    refine va_get (D := D) (cl := vwCl) (ci := 6) (v := .int full) (C := RX7) (T := TX7) (N := 35) hx hb hts (fun _ h => List.mem_cons_of_mem _ (List.mem_append_right _ h)) hown hK hP 0 rfl rfl 1 (by decide) (hts (.fieldLink RX7 7 "CheapHoursModel" "full" "I") (by decide +kernel)) (fun _ h9 => h9) rfl dX7_atFull_82 ?_
    refine lv_iadd hx hb dX7_atFull_85 ?_
    refine jst hx hb hK hP hD hS 15 (by decide) hj dX7_atFull_86 (fun H locs hP hD hS => ?_)
    obtain ⟨x86, ex86⟩ : ∃ z : Nat → Int32, z = va_up row 15 ((row 15) + full) := ⟨_, rfl⟩
    rw [← ex86] at hP hD
    refine lv_aload_n hx hb dX7_atFull_87 rfl (lv_at hl 0 rfl) ?_
    refine va_get (D := D) (cl := vwCl) (ci := 6) (v := .ref (r 16)) (C := RX7) (T := TX7) (N := 35) hx hb hts (fun _ h => List.mem_cons_of_mem _ (List.mem_append_right _ h)) hown hK hP 0 rfl rfl 20 (by decide) (hts (.fieldLink RX7 65 "CheapHoursModel" "fullHours" "[I") (by decide +kernel)) (fun _ h9 => h9) rfl dX7_atFull_88 ?_
    refine lv_iload_n hx hb dX7_atFull_91 rfl (lv_at hl 1 rfl) ?_
    refine lv_dup2_11 hx hb dX7_atFull_92 rfl rfl ?_
    refine jld (v := (x86 16)) hx hb hK hP 16 (by decide) hj rfl dX7_atFull_93 ?_
    refine lv_iconst (v := 1) hx hb dX7_atFull_94 (by decide) ?_
    refine lv_iadd hx hb dX7_atFull_95 ?_
    refine jst hx hb hK hP hD hS 16 (by decide) hj dX7_atFull_96 (fun H locs hP hD hS => ?_)
    obtain ⟨x96, ex96⟩ : ∃ z : Nat → Int32, z = va_up x86 16 ((x86 16) + 1) := ⟨_, rfl⟩
    rw [← ex96] at hP hD
    refine lv_aload_n hx hb dX7_atFull_97 rfl (lv_at hl 0 rfl) ?_
    refine va_get (D := D) (cl := vwCl) (ci := 6) (v := .ref (r 20)) (C := RX7) (T := TX7) (N := 35) hx hb hts (fun _ h => List.mem_cons_of_mem _ (List.mem_append_right _ h)) hown hK hP 0 rfl rfl 24 (by decide) (hts (.fieldLink RX7 77 "CheapHoursModel" "toBring" "[I") (by decide +kernel)) (fun _ h9 => h9) rfl dX7_atFull_98 ?_
    refine lv_iload_n hx hb dX7_atFull_101 rfl (lv_at hl 1 rfl) ?_
    refine jld (v := (x96 20)) hx hb hK hP 20 (by decide) hj rfl dX7_atFull_102 ?_
    refine lv_if_le (tgt := 129) hx hb dX7_atFull_103 (by decide) (fun c_103 => ?_) (fun c_103 => ?_)
    · skip
      refine lv_aload_n hx hb dX7_atFull_129 rfl (lv_at hl 0 rfl) ?_
      refine va_get (D := D) (cl := vwCl) (ci := 6) (v := .ref (r 11)) (C := RX7) (T := TX7) (N := 35) hx hb hts (fun _ h => List.mem_cons_of_mem _ (List.mem_append_right _ h)) hown hK hP 0 rfl rfl 15 (by decide) (hts (.fieldLink RX7 50 "CheapHoursModel" "worked" "[I") (by decide +kernel)) (fun _ h9 => h9) rfl dX7_atFull_130 ?_
      refine lv_iload_n hx hb dX7_atFull_133 rfl (lv_at hl 1 rfl) ?_
      refine lv_dup2_11 hx hb dX7_atFull_134 rfl rfl ?_
      refine jld (v := (x96 11)) hx hb hK hP 11 (by decide) hj rfl dX7_atFull_135 ?_
      refine lv_iconst (v := 1) hx hb dX7_atFull_136 (by decide) ?_
      refine lv_iadd hx hb dX7_atFull_137 ?_
      refine jst hx hb hK hP hD hS 11 (by decide) hj dX7_atFull_138 (fun H locs hP hD hS => ?_)
      obtain ⟨x138, ex138⟩ : ∃ z : Nat → Int32, z = va_up x96 11 ((x96 11) + 1) := ⟨_, rfl⟩
      rw [← ex138] at hP hD
      refine lv_aload_n hx hb dX7_atFull_139 rfl (lv_at hl 0 rfl) ?_
      refine va_get (D := D) (cl := vwCl) (ci := 6) (v := .ref (r 8)) (C := RX7) (T := TX7) (N := 35) hx hb hts (fun _ h => List.mem_cons_of_mem _ (List.mem_append_right _ h)) hown hK hP 0 rfl rfl 12 (by decide) (hts (.fieldLink RX7 41 "CheapHoursModel" "saved" "[I") (by decide +kernel)) (fun _ h9 => h9) rfl dX7_atFull_140 ?_
      refine lv_iload_n hx hb dX7_atFull_143 rfl (lv_at hl 1 rfl) ?_
      refine lv_dup2_11 hx hb dX7_atFull_144 rfl rfl ?_
      refine jld (v := (x138 8)) hx hb hK hP 8 (by decide) hj rfl dX7_atFull_145 ?_
      refine lv_iconst (v := 1) hx hb dX7_atFull_146 (by decide) ?_
      refine lv_iadd hx hb dX7_atFull_147 ?_
      refine jst hx hb hK hP hD hS 8 (by decide) hj dX7_atFull_148 (fun H locs hP hD hS => ?_)
      obtain ⟨x148, ex148⟩ : ∃ z : Nat → Int32, z = va_up x138 8 ((x138 8) + 1) := ⟨_, rfl⟩
      rw [← ex148] at hP hD
      have hrow : rAtFull full row = x148 := by
        subst_vars
        simp only [rAtFull, rFull1, rFullB, rFullC, rPay, rInc, rDec, if_pos c_7, if_pos c_103]
      rw [← hrow] at hP hD
      rw [← hQQ]
      exact W.vret hx hb hr (fun t9 ht9 hW9 => ⟨⟨(), rfl, trivial, by rw [ht9]; exact hP, hD⟩, hS.F ht9⟩) hS.2.2 dX7_atFull_149
    · skip
      refine lv_aload_n hx hb dX7_atFull_106 rfl (lv_at hl 0 rfl) ?_
      refine va_get (D := D) (cl := vwCl) (ci := 6) (v := .ref (r 20)) (C := RX7) (T := TX7) (N := 35) hx hb hts (fun _ h => List.mem_cons_of_mem _ (List.mem_append_right _ h)) hown hK hP 0 rfl rfl 24 (by decide) (hts (.fieldLink RX7 77 "CheapHoursModel" "toBring" "[I") (by decide +kernel)) (fun _ h9 => h9) rfl dX7_atFull_107 ?_
      refine lv_iload_n hx hb dX7_atFull_110 rfl (lv_at hl 1 rfl) ?_
      refine lv_dup2_11 hx hb dX7_atFull_111 rfl rfl ?_
      refine jld (v := (x96 20)) hx hb hK hP 20 (by decide) hj rfl dX7_atFull_112 ?_
      refine lv_iconst (v := 1) hx hb dX7_atFull_113 (by decide) ?_
      refine lv_isub hx hb dX7_atFull_114 ?_
      refine jst hx hb hK hP hD hS 20 (by decide) hj dX7_atFull_115 (fun H locs hP hD hS => ?_)
      obtain ⟨x115, ex115⟩ : ∃ z : Nat → Int32, z = va_up x96 20 ((x96 20) - 1) := ⟨_, rfl⟩
      rw [← ex115] at hP hD
      refine lv_aload_n hx hb dX7_atFull_116 rfl (lv_at hl 0 rfl) ?_
      refine va_get (D := D) (cl := vwCl) (ci := 6) (v := .ref (r 12)) (C := RX7) (T := TX7) (N := 35) hx hb hts (fun _ h => List.mem_cons_of_mem _ (List.mem_append_right _ h)) hown hK hP 0 rfl rfl 16 (by decide) (hts (.fieldLink RX7 53 "CheapHoursModel" "brought" "[I") (by decide +kernel)) (fun _ h9 => h9) rfl dX7_atFull_117 ?_
      refine lv_iload_n hx hb dX7_atFull_120 rfl (lv_at hl 1 rfl) ?_
      refine lv_dup2_11 hx hb dX7_atFull_121 rfl rfl ?_
      refine jld (v := (x115 12)) hx hb hK hP 12 (by decide) hj rfl dX7_atFull_122 ?_
      refine lv_iconst (v := 1) hx hb dX7_atFull_123 (by decide) ?_
      refine lv_iadd hx hb dX7_atFull_124 ?_
      refine jst hx hb hK hP hD hS 12 (by decide) hj dX7_atFull_125 (fun H locs hP hD hS => ?_)
      obtain ⟨x125, ex125⟩ : ∃ z : Nat → Int32, z = va_up x115 12 ((x115 12) + 1) := ⟨_, rfl⟩
      rw [← ex125] at hP hD
      refine lv_goto (tgt := 149) hx hb dX7_atFull_126 (by decide) ?_
      have hrow : rAtFull full row = x125 := by
        subst_vars
        simp only [rAtFull, rFull1, rFullB, rFullC, rPay, rInc, rDec, if_pos c_7, if_neg c_103]
      rw [← hrow] at hP hD
      rw [← hQQ]
      exact W.vret hx hb hr (fun t9 ht9 hW9 => ⟨⟨(), rfl, trivial, by rw [ht9]; exact hP, hD⟩, hS.F ht9⟩) hS.2.2 dX7_atFull_149
  · skip
    refine lv_aload_n hx hb dX7_atFull_10 rfl (lv_at hl 0 rfl) ?_
    refine lv_iload_n hx hb dX7_atFull_11 rfl (lv_at hl 1 rfl) ?_
    refine rwVv (As := [.int (nI j)]) (rest := []) ⟨hx, hb, hml, hown, hts⟩ (c_X7_loses l D cI cL cZ cO s.heap.size a r now full jobs lev pr R lp ch me ru wo co j row hj) (cwV 1 hts gX7_atFull_X7_loses rfl rfl rfl (by decide +kernel) ⟨Nat.le_of_ble_eq_true rfl, Nat.le_of_ble_eq_true rfl⟩) hO hP hD hS hA (va_recv hK hP (ci := 6) (q0 := 0) rfl rfl) rfl hl.1 rfl (Nat.le_of_ble_eq_true rfl) dX7_atFull_12 ⟨Nat.le_of_ble_eq_true rfl, Nat.le_of_ble_eq_true rfl⟩ (fun u_12 H locs e_12 hP hD hS => ?_)
    have hP : va_P D vwCl (wM cI cL cZ a r now full jobs lev pr (va_up R j (rLose row)) lp ch me ru wo co) H := hP
    have hD : va_D A (wM cI cL cZ a r now full jobs lev pr (va_up R j (rLose row)) lp ch me ru wo co) := hD
    refine lv_aload_n hx hb dX7_atFull_15 rfl (lv_at hl 0 rfl) ?_
    refine va_get (D := D) (cl := vwCl) (ci := 6) (v := .ref (r 17)) (C := RX7) (T := TX7) (N := 35) hx hb hts (fun _ h => List.mem_cons_of_mem _ (List.mem_append_right _ h)) hown hK hP 0 rfl rfl 21 (by decide) (hts (.fieldLink RX7 68 "CheapHoursModel" "place" "[I") (by decide +kernel)) (fun _ h9 => h9) rfl dX7_atFull_16 ?_
    refine lv_iload_n hx hb dX7_atFull_19 rfl (lv_at hl 1 rfl) ?_
    refine lv_iconst (v := 2) hx hb dX7_atFull_20 (by decide) ?_
    refine jst hx hb hK hP hD hS 17 (by decide) hj dX7_atFull_21 (fun H locs hP hD hS => ?_)
    obtain ⟨x21, ex21⟩ : ∃ z : Nat → Int32, z = va_up (rLose row) 17 2 := ⟨_, rfl⟩
    rw [← ex21] at hP hD
    refine lv_aload_n hx hb dX7_atFull_22 rfl (lv_at hl 0 rfl) ?_
    refine va_get (D := D) (cl := vwCl) (ci := 6) (v := .ref (r 8)) (C := RX7) (T := TX7) (N := 35) hx hb hts (fun _ h => List.mem_cons_of_mem _ (List.mem_append_right _ h)) hown hK hP 0 rfl rfl 12 (by decide) (hts (.fieldLink RX7 41 "CheapHoursModel" "saved" "[I") (by decide +kernel)) (fun _ h9 => h9) rfl dX7_atFull_23 ?_
    refine lv_iload_n hx hb dX7_atFull_26 rfl (lv_at hl 1 rfl) ?_
    refine jld (v := (x21 8)) hx hb hK hP 8 (by decide) hj rfl dX7_atFull_27 ?_
    refine lv_aload_n hx hb dX7_atFull_28 rfl (lv_at hl 0 rfl) ?_
    refine va_get (D := D) (cl := vwCl) (ci := 6) (v := .ref (r 6)) (C := RX7) (T := TX7) (N := 35) hx hb hts (fun _ h => List.mem_cons_of_mem _ (List.mem_append_right _ h)) hown hK hP 0 rfl rfl 10 (by decide) (hts (.fieldLink RX7 35 "CheapHoursModel" "bring" "[I") (by decide +kernel)) (fun _ h9 => h9) rfl dX7_atFull_29 ?_
    refine lv_iload_n hx hb dX7_atFull_32 rfl (lv_at hl 1 rfl) ?_
    refine jld (v := (x21 6)) hx hb hK hP 6 (by decide) hj rfl dX7_atFull_33 ?_
    refine lv_icmp_le (tgt := 52) hx hb dX7_atFull_34 (by decide) (fun c_34 => ?_) (fun c_34 => ?_)
    · skip
      refine lv_aload_n hx hb dX7_atFull_52 rfl (lv_at hl 0 rfl) ?_
      refine va_get (D := D) (cl := vwCl) (ci := 6) (v := .ref (r 10)) (C := RX7) (T := TX7) (N := 35) hx hb hts (fun _ h => List.mem_cons_of_mem _ (List.mem_append_right _ h)) hown hK hP 0 rfl rfl 14 (by decide) (hts (.fieldLink RX7 47 "CheapHoursModel" "lost" "[I") (by decide +kernel)) (fun _ h9 => h9) rfl dX7_atFull_53 ?_
      refine lv_iload_n hx hb dX7_atFull_56 rfl (lv_at hl 1 rfl) ?_
      refine lv_dup2_11 hx hb dX7_atFull_57 rfl rfl ?_
      refine jld (v := (x21 10)) hx hb hK hP 10 (by decide) hj rfl dX7_atFull_58 ?_
      refine lv_aload_n hx hb dX7_atFull_59 rfl (lv_at hl 0 rfl) ?_
      refine va_get (D := D) (cl := vwCl) (ci := 6) (v := .ref (r 8)) (C := RX7) (T := TX7) (N := 35) hx hb hts (fun _ h => List.mem_cons_of_mem _ (List.mem_append_right _ h)) hown hK hP 0 rfl rfl 12 (by decide) (hts (.fieldLink RX7 41 "CheapHoursModel" "saved" "[I") (by decide +kernel)) (fun _ h9 => h9) rfl dX7_atFull_60 ?_
      refine lv_iload_n hx hb dX7_atFull_63 rfl (lv_at hl 1 rfl) ?_
      refine jld (v := (x21 8)) hx hb hK hP 8 (by decide) hj rfl dX7_atFull_64 ?_
      refine lv_iadd hx hb dX7_atFull_65 ?_
      refine jst hx hb hK hP hD hS 10 (by decide) hj dX7_atFull_66 (fun H locs hP hD hS => ?_)
      obtain ⟨x66, ex66⟩ : ∃ z : Nat → Int32, z = va_up x21 10 ((x21 10) + (x21 8)) := ⟨_, rfl⟩
      rw [← ex66] at hP hD
      refine lv_aload_n hx hb dX7_atFull_67 rfl (lv_at hl 0 rfl) ?_
      refine va_get (D := D) (cl := vwCl) (ci := 6) (v := .ref (r 8)) (C := RX7) (T := TX7) (N := 35) hx hb hts (fun _ h => List.mem_cons_of_mem _ (List.mem_append_right _ h)) hown hK hP 0 rfl rfl 12 (by decide) (hts (.fieldLink RX7 41 "CheapHoursModel" "saved" "[I") (by decide +kernel)) (fun _ h9 => h9) rfl dX7_atFull_68 ?_
      refine lv_iload_n hx hb dX7_atFull_71 rfl (lv_at hl 1 rfl) ?_
      refine lv_iconst (v := 0) hx hb dX7_atFull_72 (by decide) ?_
      refine jst hx hb hK hP hD hS 8 (by decide) hj dX7_atFull_73 (fun H locs hP hD hS => ?_)
      obtain ⟨x73, ex73⟩ : ∃ z : Nat → Int32, z = va_up x66 8 0 := ⟨_, rfl⟩
      rw [← ex73] at hP hD
      refine lv_aload_n hx hb dX7_atFull_74 rfl (lv_at hl 0 rfl) ?_
      refine va_get (D := D) (cl := vwCl) (ci := 6) (v := .ref (r 15)) (C := RX7) (T := TX7) (N := 35) hx hb hts (fun _ h => List.mem_cons_of_mem _ (List.mem_append_right _ h)) hown hK hP 0 rfl rfl 19 (by decide) (hts (.fieldLink RX7 62 "CheapHoursModel" "paid" "[I") (by decide +kernel)) (fun _ h9 => h9) rfl dX7_atFull_75 ?_
      refine lv_iload_n hx hb dX7_atFull_78 rfl (lv_at hl 1 rfl) ?_
      refine lv_dup2_11 hx hb dX7_atFull_79 rfl rfl ?_
      refine jld (v := (x73 15)) hx hb hK hP 15 (by decide) hj rfl dX7_atFull_80 ?_
      refine lv_aload_n hx hb dX7_atFull_81 rfl (lv_at hl 0 rfl) ?_
      refine va_get (D := D) (cl := vwCl) (ci := 6) (v := .int full) (C := RX7) (T := TX7) (N := 35) hx hb hts (fun _ h => List.mem_cons_of_mem _ (List.mem_append_right _ h)) hown hK hP 0 rfl rfl 1 (by decide) (hts (.fieldLink RX7 7 "CheapHoursModel" "full" "I") (by decide +kernel)) (fun _ h9 => h9) rfl dX7_atFull_82 ?_
      refine lv_iadd hx hb dX7_atFull_85 ?_
      refine jst hx hb hK hP hD hS 15 (by decide) hj dX7_atFull_86 (fun H locs hP hD hS => ?_)
      obtain ⟨x86, ex86⟩ : ∃ z : Nat → Int32, z = va_up x73 15 ((x73 15) + full) := ⟨_, rfl⟩
      rw [← ex86] at hP hD
      refine lv_aload_n hx hb dX7_atFull_87 rfl (lv_at hl 0 rfl) ?_
      refine va_get (D := D) (cl := vwCl) (ci := 6) (v := .ref (r 16)) (C := RX7) (T := TX7) (N := 35) hx hb hts (fun _ h => List.mem_cons_of_mem _ (List.mem_append_right _ h)) hown hK hP 0 rfl rfl 20 (by decide) (hts (.fieldLink RX7 65 "CheapHoursModel" "fullHours" "[I") (by decide +kernel)) (fun _ h9 => h9) rfl dX7_atFull_88 ?_
      refine lv_iload_n hx hb dX7_atFull_91 rfl (lv_at hl 1 rfl) ?_
      refine lv_dup2_11 hx hb dX7_atFull_92 rfl rfl ?_
      refine jld (v := (x86 16)) hx hb hK hP 16 (by decide) hj rfl dX7_atFull_93 ?_
      refine lv_iconst (v := 1) hx hb dX7_atFull_94 (by decide) ?_
      refine lv_iadd hx hb dX7_atFull_95 ?_
      refine jst hx hb hK hP hD hS 16 (by decide) hj dX7_atFull_96 (fun H locs hP hD hS => ?_)
      obtain ⟨x96, ex96⟩ : ∃ z : Nat → Int32, z = va_up x86 16 ((x86 16) + 1) := ⟨_, rfl⟩
      rw [← ex96] at hP hD
      refine lv_aload_n hx hb dX7_atFull_97 rfl (lv_at hl 0 rfl) ?_
      refine va_get (D := D) (cl := vwCl) (ci := 6) (v := .ref (r 20)) (C := RX7) (T := TX7) (N := 35) hx hb hts (fun _ h => List.mem_cons_of_mem _ (List.mem_append_right _ h)) hown hK hP 0 rfl rfl 24 (by decide) (hts (.fieldLink RX7 77 "CheapHoursModel" "toBring" "[I") (by decide +kernel)) (fun _ h9 => h9) rfl dX7_atFull_98 ?_
      refine lv_iload_n hx hb dX7_atFull_101 rfl (lv_at hl 1 rfl) ?_
      refine jld (v := (x96 20)) hx hb hK hP 20 (by decide) hj rfl dX7_atFull_102 ?_
      refine lv_if_le (tgt := 129) hx hb dX7_atFull_103 (by decide) (fun c_103 => ?_) (fun c_103 => ?_)
      · skip
        refine lv_aload_n hx hb dX7_atFull_129 rfl (lv_at hl 0 rfl) ?_
        refine va_get (D := D) (cl := vwCl) (ci := 6) (v := .ref (r 11)) (C := RX7) (T := TX7) (N := 35) hx hb hts (fun _ h => List.mem_cons_of_mem _ (List.mem_append_right _ h)) hown hK hP 0 rfl rfl 15 (by decide) (hts (.fieldLink RX7 50 "CheapHoursModel" "worked" "[I") (by decide +kernel)) (fun _ h9 => h9) rfl dX7_atFull_130 ?_
        refine lv_iload_n hx hb dX7_atFull_133 rfl (lv_at hl 1 rfl) ?_
        refine lv_dup2_11 hx hb dX7_atFull_134 rfl rfl ?_
        refine jld (v := (x96 11)) hx hb hK hP 11 (by decide) hj rfl dX7_atFull_135 ?_
        refine lv_iconst (v := 1) hx hb dX7_atFull_136 (by decide) ?_
        refine lv_iadd hx hb dX7_atFull_137 ?_
        refine jst hx hb hK hP hD hS 11 (by decide) hj dX7_atFull_138 (fun H locs hP hD hS => ?_)
        obtain ⟨x138, ex138⟩ : ∃ z : Nat → Int32, z = va_up x96 11 ((x96 11) + 1) := ⟨_, rfl⟩
        rw [← ex138] at hP hD
        refine lv_aload_n hx hb dX7_atFull_139 rfl (lv_at hl 0 rfl) ?_
        refine va_get (D := D) (cl := vwCl) (ci := 6) (v := .ref (r 8)) (C := RX7) (T := TX7) (N := 35) hx hb hts (fun _ h => List.mem_cons_of_mem _ (List.mem_append_right _ h)) hown hK hP 0 rfl rfl 12 (by decide) (hts (.fieldLink RX7 41 "CheapHoursModel" "saved" "[I") (by decide +kernel)) (fun _ h9 => h9) rfl dX7_atFull_140 ?_
        refine lv_iload_n hx hb dX7_atFull_143 rfl (lv_at hl 1 rfl) ?_
        refine lv_dup2_11 hx hb dX7_atFull_144 rfl rfl ?_
        refine jld (v := (x138 8)) hx hb hK hP 8 (by decide) hj rfl dX7_atFull_145 ?_
        refine lv_iconst (v := 1) hx hb dX7_atFull_146 (by decide) ?_
        refine lv_iadd hx hb dX7_atFull_147 ?_
        refine jst hx hb hK hP hD hS 8 (by decide) hj dX7_atFull_148 (fun H locs hP hD hS => ?_)
        obtain ⟨x148, ex148⟩ : ∃ z : Nat → Int32, z = va_up x138 8 ((x138 8) + 1) := ⟨_, rfl⟩
        rw [← ex148] at hP hD
        have hrow : rAtFull full row = x148 := by
          subst_vars
          simp only [rAtFull, rFull1, rFullB, rFullC, rPay, rInc, rDec, if_neg c_7, if_pos c_34, if_pos c_103]
        rw [← hrow] at hP hD
        rw [← hQQ]
        exact W.vret hx hb hr (fun t9 ht9 hW9 => ⟨⟨(), rfl, trivial, by rw [ht9]; exact hP, hD⟩, hS.F ht9⟩) hS.2.2 dX7_atFull_149
      · skip
        refine lv_aload_n hx hb dX7_atFull_106 rfl (lv_at hl 0 rfl) ?_
        refine va_get (D := D) (cl := vwCl) (ci := 6) (v := .ref (r 20)) (C := RX7) (T := TX7) (N := 35) hx hb hts (fun _ h => List.mem_cons_of_mem _ (List.mem_append_right _ h)) hown hK hP 0 rfl rfl 24 (by decide) (hts (.fieldLink RX7 77 "CheapHoursModel" "toBring" "[I") (by decide +kernel)) (fun _ h9 => h9) rfl dX7_atFull_107 ?_
        refine lv_iload_n hx hb dX7_atFull_110 rfl (lv_at hl 1 rfl) ?_
        refine lv_dup2_11 hx hb dX7_atFull_111 rfl rfl ?_
        refine jld (v := (x96 20)) hx hb hK hP 20 (by decide) hj rfl dX7_atFull_112 ?_
        refine lv_iconst (v := 1) hx hb dX7_atFull_113 (by decide) ?_
        refine lv_isub hx hb dX7_atFull_114 ?_
        refine jst hx hb hK hP hD hS 20 (by decide) hj dX7_atFull_115 (fun H locs hP hD hS => ?_)
        obtain ⟨x115, ex115⟩ : ∃ z : Nat → Int32, z = va_up x96 20 ((x96 20) - 1) := ⟨_, rfl⟩
        rw [← ex115] at hP hD
        refine lv_aload_n hx hb dX7_atFull_116 rfl (lv_at hl 0 rfl) ?_
        refine va_get (D := D) (cl := vwCl) (ci := 6) (v := .ref (r 12)) (C := RX7) (T := TX7) (N := 35) hx hb hts (fun _ h => List.mem_cons_of_mem _ (List.mem_append_right _ h)) hown hK hP 0 rfl rfl 16 (by decide) (hts (.fieldLink RX7 53 "CheapHoursModel" "brought" "[I") (by decide +kernel)) (fun _ h9 => h9) rfl dX7_atFull_117 ?_
        refine lv_iload_n hx hb dX7_atFull_120 rfl (lv_at hl 1 rfl) ?_
        refine lv_dup2_11 hx hb dX7_atFull_121 rfl rfl ?_
        refine jld (v := (x115 12)) hx hb hK hP 12 (by decide) hj rfl dX7_atFull_122 ?_
        refine lv_iconst (v := 1) hx hb dX7_atFull_123 (by decide) ?_
        refine lv_iadd hx hb dX7_atFull_124 ?_
        refine jst hx hb hK hP hD hS 12 (by decide) hj dX7_atFull_125 (fun H locs hP hD hS => ?_)
        obtain ⟨x125, ex125⟩ : ∃ z : Nat → Int32, z = va_up x115 12 ((x115 12) + 1) := ⟨_, rfl⟩
        rw [← ex125] at hP hD
        refine lv_goto (tgt := 149) hx hb dX7_atFull_126 (by decide) ?_
        have hrow : rAtFull full row = x125 := by
          subst_vars
          simp only [rAtFull, rFull1, rFullB, rFullC, rPay, rInc, rDec, if_neg c_7, if_pos c_34, if_neg c_103]
        rw [← hrow] at hP hD
        rw [← hQQ]
        exact W.vret hx hb hr (fun t9 ht9 hW9 => ⟨⟨(), rfl, trivial, by rw [ht9]; exact hP, hD⟩, hS.F ht9⟩) hS.2.2 dX7_atFull_149
    · skip
      refine lv_aload_n hx hb dX7_atFull_37 rfl (lv_at hl 0 rfl) ?_
      refine va_get (D := D) (cl := vwCl) (ci := 6) (v := .ref (r 20)) (C := RX7) (T := TX7) (N := 35) hx hb hts (fun _ h => List.mem_cons_of_mem _ (List.mem_append_right _ h)) hown hK hP 0 rfl rfl 24 (by decide) (hts (.fieldLink RX7 77 "CheapHoursModel" "toBring" "[I") (by decide +kernel)) (fun _ h9 => h9) rfl dX7_atFull_38 ?_
      refine lv_iload_n hx hb dX7_atFull_41 rfl (lv_at hl 1 rfl) ?_
      refine lv_aload_n hx hb dX7_atFull_42 rfl (lv_at hl 0 rfl) ?_
      refine va_get (D := D) (cl := vwCl) (ci := 6) (v := .ref (r 6)) (C := RX7) (T := TX7) (N := 35) hx hb hts (fun _ h => List.mem_cons_of_mem _ (List.mem_append_right _ h)) hown hK hP 0 rfl rfl 10 (by decide) (hts (.fieldLink RX7 35 "CheapHoursModel" "bring" "[I") (by decide +kernel)) (fun _ h9 => h9) rfl dX7_atFull_43 ?_
      refine lv_iload_n hx hb dX7_atFull_46 rfl (lv_at hl 1 rfl) ?_
      refine jld (v := (x21 6)) hx hb hK hP 6 (by decide) hj rfl dX7_atFull_47 ?_
      refine jst hx hb hK hP hD hS 20 (by decide) hj dX7_atFull_48 (fun H locs hP hD hS => ?_)
      obtain ⟨x48, ex48⟩ : ∃ z : Nat → Int32, z = va_up x21 20 (x21 6) := ⟨_, rfl⟩
      rw [← ex48] at hP hD
      refine lv_goto (tgt := 74) hx hb dX7_atFull_49 (by decide) ?_
      refine lv_aload_n hx hb dX7_atFull_74 rfl (lv_at hl 0 rfl) ?_
      refine va_get (D := D) (cl := vwCl) (ci := 6) (v := .ref (r 15)) (C := RX7) (T := TX7) (N := 35) hx hb hts (fun _ h => List.mem_cons_of_mem _ (List.mem_append_right _ h)) hown hK hP 0 rfl rfl 19 (by decide) (hts (.fieldLink RX7 62 "CheapHoursModel" "paid" "[I") (by decide +kernel)) (fun _ h9 => h9) rfl dX7_atFull_75 ?_
      refine lv_iload_n hx hb dX7_atFull_78 rfl (lv_at hl 1 rfl) ?_
      refine lv_dup2_11 hx hb dX7_atFull_79 rfl rfl ?_
      refine jld (v := (x48 15)) hx hb hK hP 15 (by decide) hj rfl dX7_atFull_80 ?_
      refine lv_aload_n hx hb dX7_atFull_81 rfl (lv_at hl 0 rfl) ?_
      refine va_get (D := D) (cl := vwCl) (ci := 6) (v := .int full) (C := RX7) (T := TX7) (N := 35) hx hb hts (fun _ h => List.mem_cons_of_mem _ (List.mem_append_right _ h)) hown hK hP 0 rfl rfl 1 (by decide) (hts (.fieldLink RX7 7 "CheapHoursModel" "full" "I") (by decide +kernel)) (fun _ h9 => h9) rfl dX7_atFull_82 ?_
      refine lv_iadd hx hb dX7_atFull_85 ?_
      refine jst hx hb hK hP hD hS 15 (by decide) hj dX7_atFull_86 (fun H locs hP hD hS => ?_)
      obtain ⟨x86, ex86⟩ : ∃ z : Nat → Int32, z = va_up x48 15 ((x48 15) + full) := ⟨_, rfl⟩
      rw [← ex86] at hP hD
      refine lv_aload_n hx hb dX7_atFull_87 rfl (lv_at hl 0 rfl) ?_
      refine va_get (D := D) (cl := vwCl) (ci := 6) (v := .ref (r 16)) (C := RX7) (T := TX7) (N := 35) hx hb hts (fun _ h => List.mem_cons_of_mem _ (List.mem_append_right _ h)) hown hK hP 0 rfl rfl 20 (by decide) (hts (.fieldLink RX7 65 "CheapHoursModel" "fullHours" "[I") (by decide +kernel)) (fun _ h9 => h9) rfl dX7_atFull_88 ?_
      refine lv_iload_n hx hb dX7_atFull_91 rfl (lv_at hl 1 rfl) ?_
      refine lv_dup2_11 hx hb dX7_atFull_92 rfl rfl ?_
      refine jld (v := (x86 16)) hx hb hK hP 16 (by decide) hj rfl dX7_atFull_93 ?_
      refine lv_iconst (v := 1) hx hb dX7_atFull_94 (by decide) ?_
      refine lv_iadd hx hb dX7_atFull_95 ?_
      refine jst hx hb hK hP hD hS 16 (by decide) hj dX7_atFull_96 (fun H locs hP hD hS => ?_)
      obtain ⟨x96, ex96⟩ : ∃ z : Nat → Int32, z = va_up x86 16 ((x86 16) + 1) := ⟨_, rfl⟩
      rw [← ex96] at hP hD
      refine lv_aload_n hx hb dX7_atFull_97 rfl (lv_at hl 0 rfl) ?_
      refine va_get (D := D) (cl := vwCl) (ci := 6) (v := .ref (r 20)) (C := RX7) (T := TX7) (N := 35) hx hb hts (fun _ h => List.mem_cons_of_mem _ (List.mem_append_right _ h)) hown hK hP 0 rfl rfl 24 (by decide) (hts (.fieldLink RX7 77 "CheapHoursModel" "toBring" "[I") (by decide +kernel)) (fun _ h9 => h9) rfl dX7_atFull_98 ?_
      refine lv_iload_n hx hb dX7_atFull_101 rfl (lv_at hl 1 rfl) ?_
      refine jld (v := (x96 20)) hx hb hK hP 20 (by decide) hj rfl dX7_atFull_102 ?_
      refine lv_if_le (tgt := 129) hx hb dX7_atFull_103 (by decide) (fun c_103 => ?_) (fun c_103 => ?_)
      · skip
        refine lv_aload_n hx hb dX7_atFull_129 rfl (lv_at hl 0 rfl) ?_
        refine va_get (D := D) (cl := vwCl) (ci := 6) (v := .ref (r 11)) (C := RX7) (T := TX7) (N := 35) hx hb hts (fun _ h => List.mem_cons_of_mem _ (List.mem_append_right _ h)) hown hK hP 0 rfl rfl 15 (by decide) (hts (.fieldLink RX7 50 "CheapHoursModel" "worked" "[I") (by decide +kernel)) (fun _ h9 => h9) rfl dX7_atFull_130 ?_
        refine lv_iload_n hx hb dX7_atFull_133 rfl (lv_at hl 1 rfl) ?_
        refine lv_dup2_11 hx hb dX7_atFull_134 rfl rfl ?_
        refine jld (v := (x96 11)) hx hb hK hP 11 (by decide) hj rfl dX7_atFull_135 ?_
        refine lv_iconst (v := 1) hx hb dX7_atFull_136 (by decide) ?_
        refine lv_iadd hx hb dX7_atFull_137 ?_
        refine jst hx hb hK hP hD hS 11 (by decide) hj dX7_atFull_138 (fun H locs hP hD hS => ?_)
        obtain ⟨x138, ex138⟩ : ∃ z : Nat → Int32, z = va_up x96 11 ((x96 11) + 1) := ⟨_, rfl⟩
        rw [← ex138] at hP hD
        refine lv_aload_n hx hb dX7_atFull_139 rfl (lv_at hl 0 rfl) ?_
        refine va_get (D := D) (cl := vwCl) (ci := 6) (v := .ref (r 8)) (C := RX7) (T := TX7) (N := 35) hx hb hts (fun _ h => List.mem_cons_of_mem _ (List.mem_append_right _ h)) hown hK hP 0 rfl rfl 12 (by decide) (hts (.fieldLink RX7 41 "CheapHoursModel" "saved" "[I") (by decide +kernel)) (fun _ h9 => h9) rfl dX7_atFull_140 ?_
        refine lv_iload_n hx hb dX7_atFull_143 rfl (lv_at hl 1 rfl) ?_
        refine lv_dup2_11 hx hb dX7_atFull_144 rfl rfl ?_
        refine jld (v := (x138 8)) hx hb hK hP 8 (by decide) hj rfl dX7_atFull_145 ?_
        refine lv_iconst (v := 1) hx hb dX7_atFull_146 (by decide) ?_
        refine lv_iadd hx hb dX7_atFull_147 ?_
        refine jst hx hb hK hP hD hS 8 (by decide) hj dX7_atFull_148 (fun H locs hP hD hS => ?_)
        obtain ⟨x148, ex148⟩ : ∃ z : Nat → Int32, z = va_up x138 8 ((x138 8) + 1) := ⟨_, rfl⟩
        rw [← ex148] at hP hD
        have hrow : rAtFull full row = x148 := by
          subst_vars
          simp only [rAtFull, rFull1, rFullB, rFullC, rPay, rInc, rDec, if_neg c_7, if_neg c_34, if_pos c_103]
        rw [← hrow] at hP hD
        rw [← hQQ]
        exact W.vret hx hb hr (fun t9 ht9 hW9 => ⟨⟨(), rfl, trivial, by rw [ht9]; exact hP, hD⟩, hS.F ht9⟩) hS.2.2 dX7_atFull_149
      · skip
        refine lv_aload_n hx hb dX7_atFull_106 rfl (lv_at hl 0 rfl) ?_
        refine va_get (D := D) (cl := vwCl) (ci := 6) (v := .ref (r 20)) (C := RX7) (T := TX7) (N := 35) hx hb hts (fun _ h => List.mem_cons_of_mem _ (List.mem_append_right _ h)) hown hK hP 0 rfl rfl 24 (by decide) (hts (.fieldLink RX7 77 "CheapHoursModel" "toBring" "[I") (by decide +kernel)) (fun _ h9 => h9) rfl dX7_atFull_107 ?_
        refine lv_iload_n hx hb dX7_atFull_110 rfl (lv_at hl 1 rfl) ?_
        refine lv_dup2_11 hx hb dX7_atFull_111 rfl rfl ?_
        refine jld (v := (x96 20)) hx hb hK hP 20 (by decide) hj rfl dX7_atFull_112 ?_
        refine lv_iconst (v := 1) hx hb dX7_atFull_113 (by decide) ?_
        refine lv_isub hx hb dX7_atFull_114 ?_
        refine jst hx hb hK hP hD hS 20 (by decide) hj dX7_atFull_115 (fun H locs hP hD hS => ?_)
        obtain ⟨x115, ex115⟩ : ∃ z : Nat → Int32, z = va_up x96 20 ((x96 20) - 1) := ⟨_, rfl⟩
        rw [← ex115] at hP hD
        refine lv_aload_n hx hb dX7_atFull_116 rfl (lv_at hl 0 rfl) ?_
        refine va_get (D := D) (cl := vwCl) (ci := 6) (v := .ref (r 12)) (C := RX7) (T := TX7) (N := 35) hx hb hts (fun _ h => List.mem_cons_of_mem _ (List.mem_append_right _ h)) hown hK hP 0 rfl rfl 16 (by decide) (hts (.fieldLink RX7 53 "CheapHoursModel" "brought" "[I") (by decide +kernel)) (fun _ h9 => h9) rfl dX7_atFull_117 ?_
        refine lv_iload_n hx hb dX7_atFull_120 rfl (lv_at hl 1 rfl) ?_
        refine lv_dup2_11 hx hb dX7_atFull_121 rfl rfl ?_
        refine jld (v := (x115 12)) hx hb hK hP 12 (by decide) hj rfl dX7_atFull_122 ?_
        refine lv_iconst (v := 1) hx hb dX7_atFull_123 (by decide) ?_
        refine lv_iadd hx hb dX7_atFull_124 ?_
        refine jst hx hb hK hP hD hS 12 (by decide) hj dX7_atFull_125 (fun H locs hP hD hS => ?_)
        obtain ⟨x125, ex125⟩ : ∃ z : Nat → Int32, z = va_up x115 12 ((x115 12) + 1) := ⟨_, rfl⟩
        rw [← ex125] at hP hD
        refine lv_goto (tgt := 149) hx hb dX7_atFull_126 (by decide) ?_
        have hrow : rAtFull full row = x125 := by
          subst_vars
          simp only [rAtFull, rFull1, rFullB, rFullC, rPay, rInc, rDec, if_neg c_7, if_neg c_34, if_neg c_103]
        rw [← hrow] at hP hD
        rw [← hQQ]
        exact W.vret hx hb hr (fun t9 ht9 hW9 => ⟨⟨(), rfl, trivial, by rw [ht9]; exact hP, hD⟩, hS.F ht9⟩) hS.2.2 dX7_atFull_149
set_option maxHeartbeats 4000000 in
set_option maxRecDepth 100000 in
theorem c_X7_atMarket (l : Launch) (D : va_G) (cI cL cZ cO : ClassId) (sz : Nat) (a : Nat) (r : Nat → Nat) (now full jobs lev : Int32) (pr : Nat → Int32) (R : Nat → Nat → Int32) (lp ch : Nat → Int32) (me : Nat → Int64) (ru wo co : Nat → Int32) (j : Nat) (row : Nat → Int32) (p0 : Int32) (hj : j < 12) : Met l yX7_atMarket wsX7_atMarket ({ frames := 1, cells := 0, slots := 0, locals := 21 } : Room) (va_Pc [.ref a, .int (nI j), .int p0] (Rw D cI cL cZ cO (wM cI cL cZ a r now full jobs lev pr (va_up R j row) lp ch me ru wo co) sz)) (va_Qv (fun (u : Unit) => True) (fun (u : Unit) => Wo D (va_A (wM cI cL cZ a r now full jobs lev pr (va_up R j row) lp ch me ru wo co) sz) (wM cI cL cZ a r now full jobs lev pr (va_up R j (rAtMarket p0 row)) lp ch me ru wo co)) (va_A (wM cI cL cZ a r now full jobs lev pr (va_up R j row) lp ch me ru wo co) sz)) 0 0 (va_A (wM cI cL cZ a r now full jobs lev pr (va_up R j row) lp ch me ru wo co) sz) := by
  refine Met.ofW (cc := cX7_atMarket) (maxL := 3) (ret := none) (by decide) rfl ?_
  intro p e s m args below meth c s₁ B hml hv
  obtain ⟨rfl, hsz, hP, hO, hD0⟩ := hv
  have hx := B.exec
  have hb := B.bytes
  have hr := B.returns
  have hts := atoms_spec (ws := wsX7_atMarket) B.pre
  have hown : s.vm.findClass RX7 = some m.cls := findClass_of_methodNamed B.named
  have hlocks := B.notSynchronized
  have hK := hO.1
  subst hsz
  have hD := hD0.self (sz := s.heap.size)
  generalize hAe : va_A (wM cI cL cZ a r now full jobs lev pr (va_up R j row) lp ch me ru wo co) s.heap.size = A at hD ⊢
  have hA : ∀ q : Nat, s.heap.size ≤ q → A q := fun q h => by rw [← hAe]; exact Or.inr h
  have hS : va_S A s.heap s.heap [] := va_S.rf
  have hl := lv_entry ([.ref a, .int (nI j), .int p0]) (n := 3) (Nat.le_of_ble_eq_true rfl)
  rw [lg_entry_eq]
  generalize (lg_sl ([.ref a, .int (nI j), .int p0]) ++ List.replicate (3 - (lg_sl ([.ref a, .int (nI j), .int p0])).length) Slot.unset).toArray = ls at hl ⊢
  have hl : lv_has ls 3 [(0, .ref a), (1, .int (nI j)), (2, .int p0)] := hl
  generalize hQQ : MQ below _ _ s _ _ _ = QQ
  refine lv_aload_n hx hb dX7_atMarket_0 rfl (lv_at hl 0 rfl) ?_
  refine va_get (D := D) (cl := vwCl) (ci := 6) (v := .ref (r 17)) (C := RX7) (T := TX7) (N := 35) hx hb hts (fun _ h => List.mem_cons_of_mem _ (List.mem_append_right _ h)) hown hK hP 0 rfl rfl 21 (by decide) (hts (.fieldLink RX7 68 "CheapHoursModel" "place" "[I") (by decide +kernel)) (fun _ h9 => h9) rfl dX7_atMarket_1 ?_
  refine lv_iload_n hx hb dX7_atMarket_4 rfl (lv_at hl 1 rfl) ?_
  refine jld (v := (row 17)) hx hb hK hP 17 (by decide) hj rfl dX7_atMarket_5 ?_
  refine lv_iconst (v := 1) hx hb dX7_atMarket_6 (by decide) ?_
  refine lv_icmp_eq (tgt := 49) hx hb dX7_atMarket_7 (by decide) (fun c_7 => ?_) (fun c_7 => ?_)
  · skip
    refine lv_aload_n hx hb dX7_atMarket_49 rfl (lv_at hl 0 rfl) ?_
    refine va_get (D := D) (cl := vwCl) (ci := 6) (v := .ref (r 15)) (C := RX7) (T := TX7) (N := 35) hx hb hts (fun _ h => List.mem_cons_of_mem _ (List.mem_append_right _ h)) hown hK hP 0 rfl rfl 19 (by decide) (hts (.fieldLink RX7 62 "CheapHoursModel" "paid" "[I") (by decide +kernel)) (fun _ h9 => h9) rfl dX7_atMarket_50 ?_
    refine lv_iload_n hx hb dX7_atMarket_53 rfl (lv_at hl 1 rfl) ?_
    refine lv_dup2_11 hx hb dX7_atMarket_54 rfl rfl ?_
    refine jld (v := (row 15)) hx hb hK hP 15 (by decide) hj rfl dX7_atMarket_55 ?_
    refine lv_iload_n hx hb dX7_atMarket_56 rfl (lv_at hl 2 rfl) ?_
    refine lv_iadd hx hb dX7_atMarket_57 ?_
    refine jst hx hb hK hP hD hS 15 (by decide) hj dX7_atMarket_58 (fun H locs hP hD hS => ?_)
    obtain ⟨x58, ex58⟩ : ∃ z : Nat → Int32, z = va_up row 15 ((row 15) + p0) := ⟨_, rfl⟩
    rw [← ex58] at hP hD
    refine lv_aload_n hx hb dX7_atMarket_59 rfl (lv_at hl 0 rfl) ?_
    refine va_get (D := D) (cl := vwCl) (ci := 6) (v := .ref (r 20)) (C := RX7) (T := TX7) (N := 35) hx hb hts (fun _ h => List.mem_cons_of_mem _ (List.mem_append_right _ h)) hown hK hP 0 rfl rfl 24 (by decide) (hts (.fieldLink RX7 77 "CheapHoursModel" "toBring" "[I") (by decide +kernel)) (fun _ h9 => h9) rfl dX7_atMarket_60 ?_
    refine lv_iload_n hx hb dX7_atMarket_63 rfl (lv_at hl 1 rfl) ?_
    refine jld (v := (x58 20)) hx hb hK hP 20 (by decide) hj rfl dX7_atMarket_64 ?_
    refine lv_if_le (tgt := 89) hx hb dX7_atMarket_65 (by decide) (fun c_65 => ?_) (fun c_65 => ?_)
    · skip
      refine lv_aload_n hx hb dX7_atMarket_89 rfl (lv_at hl 0 rfl) ?_
      refine va_get (D := D) (cl := vwCl) (ci := 6) (v := .ref (r 21)) (C := RX7) (T := TX7) (N := 35) hx hb hts (fun _ h => List.mem_cons_of_mem _ (List.mem_append_right _ h)) hown hK hP 0 rfl rfl 25 (by decide) (hts (.fieldLink RX7 80 "CheapHoursModel" "toSave" "[I") (by decide +kernel)) (fun _ h9 => h9) rfl dX7_atMarket_90 ?_
      refine lv_iload_n hx hb dX7_atMarket_93 rfl (lv_at hl 1 rfl) ?_
      refine jld (v := (x58 21)) hx hb hK hP 21 (by decide) hj rfl dX7_atMarket_94 ?_
      refine lv_if_le (tgt := 133) hx hb dX7_atMarket_95 (by decide) (fun c_95 => ?_) (fun c_95 => ?_)
      · skip
        refine lv_aload_n hx hb dX7_atMarket_133 rfl (lv_at hl 0 rfl) ?_
        refine va_get (D := D) (cl := vwCl) (ci := 6) (v := .ref (r 11)) (C := RX7) (T := TX7) (N := 35) hx hb hts (fun _ h => List.mem_cons_of_mem _ (List.mem_append_right _ h)) hown hK hP 0 rfl rfl 15 (by decide) (hts (.fieldLink RX7 50 "CheapHoursModel" "worked" "[I") (by decide +kernel)) (fun _ h9 => h9) rfl dX7_atMarket_134 ?_
        refine lv_iload_n hx hb dX7_atMarket_137 rfl (lv_at hl 1 rfl) ?_
        refine lv_dup2_11 hx hb dX7_atMarket_138 rfl rfl ?_
        refine jld (v := (x58 11)) hx hb hK hP 11 (by decide) hj rfl dX7_atMarket_139 ?_
        refine lv_iconst (v := 1) hx hb dX7_atMarket_140 (by decide) ?_
        refine lv_iadd hx hb dX7_atMarket_141 ?_
        refine jst hx hb hK hP hD hS 11 (by decide) hj dX7_atMarket_142 (fun H locs hP hD hS => ?_)
        obtain ⟨x142, ex142⟩ : ∃ z : Nat → Int32, z = va_up x58 11 ((x58 11) + 1) := ⟨_, rfl⟩
        rw [← ex142] at hP hD
        refine lv_aload_n hx hb dX7_atMarket_143 rfl (lv_at hl 0 rfl) ?_
        refine va_get (D := D) (cl := vwCl) (ci := 6) (v := .ref (r 9)) (C := RX7) (T := TX7) (N := 35) hx hb hts (fun _ h => List.mem_cons_of_mem _ (List.mem_append_right _ h)) hown hK hP 0 rfl rfl 13 (by decide) (hts (.fieldLink RX7 44 "CheapHoursModel" "done" "[I") (by decide +kernel)) (fun _ h9 => h9) rfl dX7_atMarket_144 ?_
        refine lv_iload_n hx hb dX7_atMarket_147 rfl (lv_at hl 1 rfl) ?_
        refine lv_dup2_11 hx hb dX7_atMarket_148 rfl rfl ?_
        refine jld (v := (x142 9)) hx hb hK hP 9 (by decide) hj rfl dX7_atMarket_149 ?_
        refine lv_iconst (v := 1) hx hb dX7_atMarket_150 (by decide) ?_
        refine lv_iadd hx hb dX7_atMarket_151 ?_
        refine jst hx hb hK hP hD hS 9 (by decide) hj dX7_atMarket_152 (fun H locs hP hD hS => ?_)
        obtain ⟨x152, ex152⟩ : ∃ z : Nat → Int32, z = va_up x142 9 ((x142 9) + 1) := ⟨_, rfl⟩
        rw [← ex152] at hP hD
        refine lv_aload_n hx hb dX7_atMarket_153 rfl (lv_at hl 0 rfl) ?_
        refine va_get (D := D) (cl := vwCl) (ci := 6) (v := .ref (r 22)) (C := RX7) (T := TX7) (N := 35) hx hb hts (fun _ h => List.mem_cons_of_mem _ (List.mem_append_right _ h)) hown hK hP 0 rfl rfl 26 (by decide) (hts (.fieldLink RX7 83 "CheapHoursModel" "since" "[I") (by decide +kernel)) (fun _ h9 => h9) rfl dX7_atMarket_154 ?_
        refine lv_iload_n hx hb dX7_atMarket_157 rfl (lv_at hl 1 rfl) ?_
        refine lv_dup2_11 hx hb dX7_atMarket_158 rfl rfl ?_
        refine jld (v := (x152 22)) hx hb hK hP 22 (by decide) hj rfl dX7_atMarket_159 ?_
        refine lv_iconst (v := 1) hx hb dX7_atMarket_160 (by decide) ?_
        refine lv_iadd hx hb dX7_atMarket_161 ?_
        refine jst hx hb hK hP hD hS 22 (by decide) hj dX7_atMarket_162 (fun H locs hP hD hS => ?_)
        obtain ⟨x162, ex162⟩ : ∃ z : Nat → Int32, z = va_up x152 22 ((x152 22) + 1) := ⟨_, rfl⟩
        rw [← ex162] at hP hD
        refine lv_aload_n hx hb dX7_atMarket_163 rfl (lv_at hl 0 rfl) ?_
        refine va_get (D := D) (cl := vwCl) (ci := 6) (v := .ref (r 22)) (C := RX7) (T := TX7) (N := 35) hx hb hts (fun _ h => List.mem_cons_of_mem _ (List.mem_append_right _ h)) hown hK hP 0 rfl rfl 26 (by decide) (hts (.fieldLink RX7 83 "CheapHoursModel" "since" "[I") (by decide +kernel)) (fun _ h9 => h9) rfl dX7_atMarket_164 ?_
        refine lv_iload_n hx hb dX7_atMarket_167 rfl (lv_at hl 1 rfl) ?_
        refine jld (v := (x162 22)) hx hb hK hP 22 (by decide) hj rfl dX7_atMarket_168 ?_
        refine lv_aload_n hx hb dX7_atMarket_169 rfl (lv_at hl 0 rfl) ?_
        refine va_get (D := D) (cl := vwCl) (ci := 6) (v := .ref (r 4)) (C := RX7) (T := TX7) (N := 35) hx hb hts (fun _ h => List.mem_cons_of_mem _ (List.mem_append_right _ h)) hown hK hP 0 rfl rfl 8 (by decide) (hts (.fieldLink RX7 29 "CheapHoursModel" "spanOf" "[I") (by decide +kernel)) (fun _ h9 => h9) rfl dX7_atMarket_170 ?_
        refine lv_iload_n hx hb dX7_atMarket_173 rfl (lv_at hl 1 rfl) ?_
        refine jld (v := (x162 4)) hx hb hK hP 4 (by decide) hj rfl dX7_atMarket_174 ?_
        refine lv_icmp_ge (tgt := 201) hx hb dX7_atMarket_175 (by decide) (fun c_175 => ?_) (fun c_175 => ?_)
        · skip
          refine lv_aload_n hx hb dX7_atMarket_201 rfl (lv_at hl 0 rfl) ?_
          refine va_get (D := D) (cl := vwCl) (ci := 6) (v := .ref (r 21)) (C := RX7) (T := TX7) (N := 35) hx hb hts (fun _ h => List.mem_cons_of_mem _ (List.mem_append_right _ h)) hown hK hP 0 rfl rfl 25 (by decide) (hts (.fieldLink RX7 80 "CheapHoursModel" "toSave" "[I") (by decide +kernel)) (fun _ h9 => h9) rfl dX7_atMarket_202 ?_
          refine lv_iload_n hx hb dX7_atMarket_205 rfl (lv_at hl 1 rfl) ?_
          refine lv_aload_n hx hb dX7_atMarket_206 rfl (lv_at hl 0 rfl) ?_
          refine va_get (D := D) (cl := vwCl) (ci := 6) (v := .ref (r 5)) (C := RX7) (T := TX7) (N := 35) hx hb hts (fun _ h => List.mem_cons_of_mem _ (List.mem_append_right _ h)) hown hK hP 0 rfl rfl 9 (by decide) (hts (.fieldLink RX7 32 "CheapHoursModel" "save" "[I") (by decide +kernel)) (fun _ h9 => h9) rfl dX7_atMarket_207 ?_
          refine lv_iload_n hx hb dX7_atMarket_210 rfl (lv_at hl 1 rfl) ?_
          refine jld (v := (x162 5)) hx hb hK hP 5 (by decide) hj rfl dX7_atMarket_211 ?_
          refine jst hx hb hK hP hD hS 21 (by decide) hj dX7_atMarket_212 (fun H locs hP hD hS => ?_)
          obtain ⟨x212, ex212⟩ : ∃ z : Nat → Int32, z = va_up x162 21 (x162 5) := ⟨_, rfl⟩
          rw [← ex212] at hP hD
          refine lv_aload_n hx hb dX7_atMarket_213 rfl (lv_at hl 0 rfl) ?_
          refine va_get (D := D) (cl := vwCl) (ci := 6) (v := .ref (r 21)) (C := RX7) (T := TX7) (N := 35) hx hb hts (fun _ h => List.mem_cons_of_mem _ (List.mem_append_right _ h)) hown hK hP 0 rfl rfl 25 (by decide) (hts (.fieldLink RX7 80 "CheapHoursModel" "toSave" "[I") (by decide +kernel)) (fun _ h9 => h9) rfl dX7_atMarket_214 ?_
          refine lv_iload_n hx hb dX7_atMarket_217 rfl (lv_at hl 1 rfl) ?_
          refine jld (v := (x212 21)) hx hb hK hP 21 (by decide) hj rfl dX7_atMarket_218 ?_
          refine lv_if_ne (tgt := 227) hx hb dX7_atMarket_219 (by decide) (fun c_219 => ?_) (fun c_219 => ?_)
          · skip
            have hrow : rAtMarket p0 row = x212 := by
              subst_vars
              simp only [rAtMarket, rMkA, rMkB, rMkS, rMkW, rMkT, rMkP, rInc, rDec, if_pos c_7, if_pos c_65, if_pos c_95, if_pos c_175, if_neg c_219]
            rw [← hrow] at hP hD
            rw [← hQQ]
            exact W.vret hx hb hr (fun t9 ht9 hW9 => ⟨⟨(), rfl, trivial, by rw [ht9]; exact hP, hD⟩, hS.F ht9⟩) hS.2.2 dX7_atMarket_227
          · skip
            refine lv_aload_n hx hb dX7_atMarket_222 rfl (lv_at hl 0 rfl) ?_
            refine lv_iload_n hx hb dX7_atMarket_223 rfl (lv_at hl 1 rfl) ?_
            refine rwVv (As := [.int (nI j)]) (rest := []) ⟨hx, hb, hml, hown, hts⟩ (c_X7_keeps l D cI cL cZ cO H.size a r now full jobs lev pr R lp ch me ru wo co j x212 hj) (cwV 1 hts gX7_atMarket_X7_keeps rfl rfl rfl (by decide +kernel) ⟨Nat.le_of_ble_eq_true rfl, Nat.le_of_ble_eq_true rfl⟩) hO hP hD hS hA (va_recv hK hP (ci := 6) (q0 := 0) rfl rfl) rfl hl.1 rfl (Nat.le_of_ble_eq_true rfl) dX7_atMarket_224 ⟨Nat.le_of_ble_eq_true rfl, Nat.le_of_ble_eq_true rfl⟩ (fun u_224 H locs e_224 hP hD hS => ?_)
            have hP : va_P D vwCl (wM cI cL cZ a r now full jobs lev pr (va_up R j (rKeep x212)) lp ch me ru wo co) H := hP
            have hD : va_D A (wM cI cL cZ a r now full jobs lev pr (va_up R j (rKeep x212)) lp ch me ru wo co) := hD
            have hrow : rAtMarket p0 row = rKeep x212 := by
              subst_vars
              simp only [rAtMarket, rMkA, rMkB, rMkS, rMkW, rMkT, rMkP, rInc, rDec, if_pos c_7, if_pos c_65, if_pos c_95, if_pos c_175, if_pos c_219]
            rw [← hrow] at hP hD
            rw [← hQQ]
            exact W.vret hx hb hr (fun t9 ht9 hW9 => ⟨⟨(), rfl, trivial, by rw [ht9]; exact hP, hD⟩, hS.F ht9⟩) hS.2.2 dX7_atMarket_227
        · skip
          refine lv_aload_n hx hb dX7_atMarket_178 rfl (lv_at hl 0 rfl) ?_
          refine va_get (D := D) (cl := vwCl) (ci := 6) (v := .ref (r 8)) (C := RX7) (T := TX7) (N := 35) hx hb hts (fun _ h => List.mem_cons_of_mem _ (List.mem_append_right _ h)) hown hK hP 0 rfl rfl 12 (by decide) (hts (.fieldLink RX7 41 "CheapHoursModel" "saved" "[I") (by decide +kernel)) (fun _ h9 => h9) rfl dX7_atMarket_179 ?_
          refine lv_iload_n hx hb dX7_atMarket_182 rfl (lv_at hl 1 rfl) ?_
          refine jld (v := (x162 8)) hx hb hK hP 8 (by decide) hj rfl dX7_atMarket_183 ?_
          refine lv_aload_n hx hb dX7_atMarket_184 rfl (lv_at hl 0 rfl) ?_
          refine va_get (D := D) (cl := vwCl) (ci := 6) (v := .ref (r 9)) (C := RX7) (T := TX7) (N := 35) hx hb hts (fun _ h => List.mem_cons_of_mem _ (List.mem_append_right _ h)) hown hK hP 0 rfl rfl 13 (by decide) (hts (.fieldLink RX7 44 "CheapHoursModel" "done" "[I") (by decide +kernel)) (fun _ h9 => h9) rfl dX7_atMarket_185 ?_
          refine lv_iload_n hx hb dX7_atMarket_188 rfl (lv_at hl 1 rfl) ?_
          refine jld (v := (x162 9)) hx hb hK hP 9 (by decide) hj rfl dX7_atMarket_189 ?_
          refine lv_iadd hx hb dX7_atMarket_190 ?_
          refine lv_aload_n hx hb dX7_atMarket_191 rfl (lv_at hl 0 rfl) ?_
          refine va_get (D := D) (cl := vwCl) (ci := 6) (v := .ref (r 0)) (C := RX7) (T := TX7) (N := 35) hx hb hts (fun _ h => List.mem_cons_of_mem _ (List.mem_append_right _ h)) hown hK hP 0 rfl rfl 4 (by decide) (hts (.fieldLink RX7 17 "CheapHoursModel" "work" "[I") (by decide +kernel)) (fun _ h9 => h9) rfl dX7_atMarket_192 ?_
          refine lv_iload_n hx hb dX7_atMarket_195 rfl (lv_at hl 1 rfl) ?_
          refine jld (v := (x162 0)) hx hb hK hP 0 (by decide) hj rfl dX7_atMarket_196 ?_
          refine lv_icmp_ge (tgt := 201) hx hb dX7_atMarket_197 (by decide) (fun c_197 => ?_) (fun c_197 => ?_)
          · skip
            refine lv_aload_n hx hb dX7_atMarket_201 rfl (lv_at hl 0 rfl) ?_
            refine va_get (D := D) (cl := vwCl) (ci := 6) (v := .ref (r 21)) (C := RX7) (T := TX7) (N := 35) hx hb hts (fun _ h => List.mem_cons_of_mem _ (List.mem_append_right _ h)) hown hK hP 0 rfl rfl 25 (by decide) (hts (.fieldLink RX7 80 "CheapHoursModel" "toSave" "[I") (by decide +kernel)) (fun _ h9 => h9) rfl dX7_atMarket_202 ?_
            refine lv_iload_n hx hb dX7_atMarket_205 rfl (lv_at hl 1 rfl) ?_
            refine lv_aload_n hx hb dX7_atMarket_206 rfl (lv_at hl 0 rfl) ?_
            refine va_get (D := D) (cl := vwCl) (ci := 6) (v := .ref (r 5)) (C := RX7) (T := TX7) (N := 35) hx hb hts (fun _ h => List.mem_cons_of_mem _ (List.mem_append_right _ h)) hown hK hP 0 rfl rfl 9 (by decide) (hts (.fieldLink RX7 32 "CheapHoursModel" "save" "[I") (by decide +kernel)) (fun _ h9 => h9) rfl dX7_atMarket_207 ?_
            refine lv_iload_n hx hb dX7_atMarket_210 rfl (lv_at hl 1 rfl) ?_
            refine jld (v := (x162 5)) hx hb hK hP 5 (by decide) hj rfl dX7_atMarket_211 ?_
            refine jst hx hb hK hP hD hS 21 (by decide) hj dX7_atMarket_212 (fun H locs hP hD hS => ?_)
            obtain ⟨x212, ex212⟩ : ∃ z : Nat → Int32, z = va_up x162 21 (x162 5) := ⟨_, rfl⟩
            rw [← ex212] at hP hD
            refine lv_aload_n hx hb dX7_atMarket_213 rfl (lv_at hl 0 rfl) ?_
            refine va_get (D := D) (cl := vwCl) (ci := 6) (v := .ref (r 21)) (C := RX7) (T := TX7) (N := 35) hx hb hts (fun _ h => List.mem_cons_of_mem _ (List.mem_append_right _ h)) hown hK hP 0 rfl rfl 25 (by decide) (hts (.fieldLink RX7 80 "CheapHoursModel" "toSave" "[I") (by decide +kernel)) (fun _ h9 => h9) rfl dX7_atMarket_214 ?_
            refine lv_iload_n hx hb dX7_atMarket_217 rfl (lv_at hl 1 rfl) ?_
            refine jld (v := (x212 21)) hx hb hK hP 21 (by decide) hj rfl dX7_atMarket_218 ?_
            refine lv_if_ne (tgt := 227) hx hb dX7_atMarket_219 (by decide) (fun c_219 => ?_) (fun c_219 => ?_)
            · skip
              have hrow : rAtMarket p0 row = x212 := by
                subst_vars
                simp only [rAtMarket, rMkA, rMkB, rMkS, rMkW, rMkT, rMkP, rInc, rDec, if_pos c_7, if_pos c_65, if_pos c_95, if_neg c_175, if_pos c_197, if_neg c_219]
              rw [← hrow] at hP hD
              rw [← hQQ]
              exact W.vret hx hb hr (fun t9 ht9 hW9 => ⟨⟨(), rfl, trivial, by rw [ht9]; exact hP, hD⟩, hS.F ht9⟩) hS.2.2 dX7_atMarket_227
            · skip
              refine lv_aload_n hx hb dX7_atMarket_222 rfl (lv_at hl 0 rfl) ?_
              refine lv_iload_n hx hb dX7_atMarket_223 rfl (lv_at hl 1 rfl) ?_
              refine rwVv (As := [.int (nI j)]) (rest := []) ⟨hx, hb, hml, hown, hts⟩ (c_X7_keeps l D cI cL cZ cO H.size a r now full jobs lev pr R lp ch me ru wo co j x212 hj) (cwV 1 hts gX7_atMarket_X7_keeps rfl rfl rfl (by decide +kernel) ⟨Nat.le_of_ble_eq_true rfl, Nat.le_of_ble_eq_true rfl⟩) hO hP hD hS hA (va_recv hK hP (ci := 6) (q0 := 0) rfl rfl) rfl hl.1 rfl (Nat.le_of_ble_eq_true rfl) dX7_atMarket_224 ⟨Nat.le_of_ble_eq_true rfl, Nat.le_of_ble_eq_true rfl⟩ (fun u_224 H locs e_224 hP hD hS => ?_)
              have hP : va_P D vwCl (wM cI cL cZ a r now full jobs lev pr (va_up R j (rKeep x212)) lp ch me ru wo co) H := hP
              have hD : va_D A (wM cI cL cZ a r now full jobs lev pr (va_up R j (rKeep x212)) lp ch me ru wo co) := hD
              have hrow : rAtMarket p0 row = rKeep x212 := by
                subst_vars
                simp only [rAtMarket, rMkA, rMkB, rMkS, rMkW, rMkT, rMkP, rInc, rDec, if_pos c_7, if_pos c_65, if_pos c_95, if_neg c_175, if_pos c_197, if_pos c_219]
              rw [← hrow] at hP hD
              rw [← hQQ]
              exact W.vret hx hb hr (fun t9 ht9 hW9 => ⟨⟨(), rfl, trivial, by rw [ht9]; exact hP, hD⟩, hS.F ht9⟩) hS.2.2 dX7_atMarket_227
          · skip
            have hrow : rAtMarket p0 row = x162 := by
              subst_vars
              simp only [rAtMarket, rMkA, rMkB, rMkS, rMkW, rMkT, rMkP, rInc, rDec, if_pos c_7, if_pos c_65, if_pos c_95, if_neg c_175, if_neg c_197]
            rw [← hrow] at hP hD
            rw [← hQQ]
            exact W.vret hx hb hr (fun t9 ht9 hW9 => ⟨⟨(), rfl, trivial, by rw [ht9]; exact hP, hD⟩, hS.F ht9⟩) hS.2.2 dX7_atMarket_200
      · skip
        refine lv_aload_n hx hb dX7_atMarket_98 rfl (lv_at hl 0 rfl) ?_
        refine va_get (D := D) (cl := vwCl) (ci := 6) (v := .ref (r 21)) (C := RX7) (T := TX7) (N := 35) hx hb hts (fun _ h => List.mem_cons_of_mem _ (List.mem_append_right _ h)) hown hK hP 0 rfl rfl 25 (by decide) (hts (.fieldLink RX7 80 "CheapHoursModel" "toSave" "[I") (by decide +kernel)) (fun _ h9 => h9) rfl dX7_atMarket_99 ?_
        refine lv_iload_n hx hb dX7_atMarket_102 rfl (lv_at hl 1 rfl) ?_
        refine lv_dup2_11 hx hb dX7_atMarket_103 rfl rfl ?_
        refine jld (v := (x58 21)) hx hb hK hP 21 (by decide) hj rfl dX7_atMarket_104 ?_
        refine lv_iconst (v := 1) hx hb dX7_atMarket_105 (by decide) ?_
        refine lv_isub hx hb dX7_atMarket_106 ?_
        refine jst hx hb hK hP hD hS 21 (by decide) hj dX7_atMarket_107 (fun H locs hP hD hS => ?_)
        obtain ⟨x107, ex107⟩ : ∃ z : Nat → Int32, z = va_up x58 21 ((x58 21) - 1) := ⟨_, rfl⟩
        rw [← ex107] at hP hD
        refine lv_aload_n hx hb dX7_atMarket_108 rfl (lv_at hl 0 rfl) ?_
        refine va_get (D := D) (cl := vwCl) (ci := 6) (v := .ref (r 13)) (C := RX7) (T := TX7) (N := 35) hx hb hts (fun _ h => List.mem_cons_of_mem _ (List.mem_append_right _ h)) hown hK hP 0 rfl rfl 17 (by decide) (hts (.fieldLink RX7 56 "CheapHoursModel" "saving" "[I") (by decide +kernel)) (fun _ h9 => h9) rfl dX7_atMarket_109 ?_
        refine lv_iload_n hx hb dX7_atMarket_112 rfl (lv_at hl 1 rfl) ?_
        refine lv_dup2_11 hx hb dX7_atMarket_113 rfl rfl ?_
        refine jld (v := (x107 13)) hx hb hK hP 13 (by decide) hj rfl dX7_atMarket_114 ?_
        refine lv_iconst (v := 1) hx hb dX7_atMarket_115 (by decide) ?_
        refine lv_iadd hx hb dX7_atMarket_116 ?_
        refine jst hx hb hK hP hD hS 13 (by decide) hj dX7_atMarket_117 (fun H locs hP hD hS => ?_)
        obtain ⟨x117, ex117⟩ : ∃ z : Nat → Int32, z = va_up x107 13 ((x107 13) + 1) := ⟨_, rfl⟩
        rw [← ex117] at hP hD
        refine lv_aload_n hx hb dX7_atMarket_118 rfl (lv_at hl 0 rfl) ?_
        refine va_get (D := D) (cl := vwCl) (ci := 6) (v := .ref (r 21)) (C := RX7) (T := TX7) (N := 35) hx hb hts (fun _ h => List.mem_cons_of_mem _ (List.mem_append_right _ h)) hown hK hP 0 rfl rfl 25 (by decide) (hts (.fieldLink RX7 80 "CheapHoursModel" "toSave" "[I") (by decide +kernel)) (fun _ h9 => h9) rfl dX7_atMarket_119 ?_
        refine lv_iload_n hx hb dX7_atMarket_122 rfl (lv_at hl 1 rfl) ?_
        refine jld (v := (x117 21)) hx hb hK hP 21 (by decide) hj rfl dX7_atMarket_123 ?_
        refine lv_if_ne (tgt := 132) hx hb dX7_atMarket_124 (by decide) (fun c_124 => ?_) (fun c_124 => ?_)
        · skip
          have hrow : rAtMarket p0 row = x117 := by
            subst_vars
            simp only [rAtMarket, rMkA, rMkB, rMkS, rMkW, rMkT, rMkP, rInc, rDec, if_pos c_7, if_pos c_65, if_neg c_95, if_neg c_124]
          rw [← hrow] at hP hD
          rw [← hQQ]
          exact W.vret hx hb hr (fun t9 ht9 hW9 => ⟨⟨(), rfl, trivial, by rw [ht9]; exact hP, hD⟩, hS.F ht9⟩) hS.2.2 dX7_atMarket_132
        · skip
          refine lv_aload_n hx hb dX7_atMarket_127 rfl (lv_at hl 0 rfl) ?_
          refine lv_iload_n hx hb dX7_atMarket_128 rfl (lv_at hl 1 rfl) ?_
          refine rwVv (As := [.int (nI j)]) (rest := []) ⟨hx, hb, hml, hown, hts⟩ (c_X7_keeps l D cI cL cZ cO H.size a r now full jobs lev pr R lp ch me ru wo co j x117 hj) (cwV 1 hts gX7_atMarket_X7_keeps rfl rfl rfl (by decide +kernel) ⟨Nat.le_of_ble_eq_true rfl, Nat.le_of_ble_eq_true rfl⟩) hO hP hD hS hA (va_recv hK hP (ci := 6) (q0 := 0) rfl rfl) rfl hl.1 rfl (Nat.le_of_ble_eq_true rfl) dX7_atMarket_129 ⟨Nat.le_of_ble_eq_true rfl, Nat.le_of_ble_eq_true rfl⟩ (fun u_129 H locs e_129 hP hD hS => ?_)
          have hP : va_P D vwCl (wM cI cL cZ a r now full jobs lev pr (va_up R j (rKeep x117)) lp ch me ru wo co) H := hP
          have hD : va_D A (wM cI cL cZ a r now full jobs lev pr (va_up R j (rKeep x117)) lp ch me ru wo co) := hD
          have hrow : rAtMarket p0 row = rKeep x117 := by
            subst_vars
            simp only [rAtMarket, rMkA, rMkB, rMkS, rMkW, rMkT, rMkP, rInc, rDec, if_pos c_7, if_pos c_65, if_neg c_95, if_pos c_124]
          rw [← hrow] at hP hD
          rw [← hQQ]
          exact W.vret hx hb hr (fun t9 ht9 hW9 => ⟨⟨(), rfl, trivial, by rw [ht9]; exact hP, hD⟩, hS.F ht9⟩) hS.2.2 dX7_atMarket_132
    · skip
      refine lv_aload_n hx hb dX7_atMarket_68 rfl (lv_at hl 0 rfl) ?_
      refine va_get (D := D) (cl := vwCl) (ci := 6) (v := .ref (r 20)) (C := RX7) (T := TX7) (N := 35) hx hb hts (fun _ h => List.mem_cons_of_mem _ (List.mem_append_right _ h)) hown hK hP 0 rfl rfl 24 (by decide) (hts (.fieldLink RX7 77 "CheapHoursModel" "toBring" "[I") (by decide +kernel)) (fun _ h9 => h9) rfl dX7_atMarket_69 ?_
      refine lv_iload_n hx hb dX7_atMarket_72 rfl (lv_at hl 1 rfl) ?_
      refine lv_dup2_11 hx hb dX7_atMarket_73 rfl rfl ?_
      refine jld (v := (x58 20)) hx hb hK hP 20 (by decide) hj rfl dX7_atMarket_74 ?_
      refine lv_iconst (v := 1) hx hb dX7_atMarket_75 (by decide) ?_
      refine lv_isub hx hb dX7_atMarket_76 ?_
      refine jst hx hb hK hP hD hS 20 (by decide) hj dX7_atMarket_77 (fun H locs hP hD hS => ?_)
      obtain ⟨x77, ex77⟩ : ∃ z : Nat → Int32, z = va_up x58 20 ((x58 20) - 1) := ⟨_, rfl⟩
      rw [← ex77] at hP hD
      refine lv_aload_n hx hb dX7_atMarket_78 rfl (lv_at hl 0 rfl) ?_
      refine va_get (D := D) (cl := vwCl) (ci := 6) (v := .ref (r 12)) (C := RX7) (T := TX7) (N := 35) hx hb hts (fun _ h => List.mem_cons_of_mem _ (List.mem_append_right _ h)) hown hK hP 0 rfl rfl 16 (by decide) (hts (.fieldLink RX7 53 "CheapHoursModel" "brought" "[I") (by decide +kernel)) (fun _ h9 => h9) rfl dX7_atMarket_79 ?_
      refine lv_iload_n hx hb dX7_atMarket_82 rfl (lv_at hl 1 rfl) ?_
      refine lv_dup2_11 hx hb dX7_atMarket_83 rfl rfl ?_
      refine jld (v := (x77 12)) hx hb hK hP 12 (by decide) hj rfl dX7_atMarket_84 ?_
      refine lv_iconst (v := 1) hx hb dX7_atMarket_85 (by decide) ?_
      refine lv_iadd hx hb dX7_atMarket_86 ?_
      refine jst hx hb hK hP hD hS 12 (by decide) hj dX7_atMarket_87 (fun H locs hP hD hS => ?_)
      obtain ⟨x87, ex87⟩ : ∃ z : Nat → Int32, z = va_up x77 12 ((x77 12) + 1) := ⟨_, rfl⟩
      rw [← ex87] at hP hD
      have hrow : rAtMarket p0 row = x87 := by
        subst_vars
        simp only [rAtMarket, rMkA, rMkB, rMkS, rMkW, rMkT, rMkP, rInc, rDec, if_pos c_7, if_neg c_65]
      rw [← hrow] at hP hD
      rw [← hQQ]
      exact W.vret hx hb hr (fun t9 ht9 hW9 => ⟨⟨(), rfl, trivial, by rw [ht9]; exact hP, hD⟩, hS.F ht9⟩) hS.2.2 dX7_atMarket_88
  · skip
    refine lv_aload_n hx hb dX7_atMarket_10 rfl (lv_at hl 0 rfl) ?_
    refine va_get (D := D) (cl := vwCl) (ci := 6) (v := .ref (r 17)) (C := RX7) (T := TX7) (N := 35) hx hb hts (fun _ h => List.mem_cons_of_mem _ (List.mem_append_right _ h)) hown hK hP 0 rfl rfl 21 (by decide) (hts (.fieldLink RX7 68 "CheapHoursModel" "place" "[I") (by decide +kernel)) (fun _ h9 => h9) rfl dX7_atMarket_11 ?_
    refine lv_iload_n hx hb dX7_atMarket_14 rfl (lv_at hl 1 rfl) ?_
    refine lv_iconst (v := 1) hx hb dX7_atMarket_15 (by decide) ?_
    refine jst hx hb hK hP hD hS 17 (by decide) hj dX7_atMarket_16 (fun H locs hP hD hS => ?_)
    obtain ⟨x16, ex16⟩ : ∃ z : Nat → Int32, z = va_up row 17 1 := ⟨_, rfl⟩
    rw [← ex16] at hP hD
    refine lv_aload_n hx hb dX7_atMarket_17 rfl (lv_at hl 0 rfl) ?_
    refine va_get (D := D) (cl := vwCl) (ci := 6) (v := .ref (r 22)) (C := RX7) (T := TX7) (N := 35) hx hb hts (fun _ h => List.mem_cons_of_mem _ (List.mem_append_right _ h)) hown hK hP 0 rfl rfl 26 (by decide) (hts (.fieldLink RX7 83 "CheapHoursModel" "since" "[I") (by decide +kernel)) (fun _ h9 => h9) rfl dX7_atMarket_18 ?_
    refine lv_iload_n hx hb dX7_atMarket_21 rfl (lv_at hl 1 rfl) ?_
    refine lv_iconst (v := 0) hx hb dX7_atMarket_22 (by decide) ?_
    refine jst hx hb hK hP hD hS 22 (by decide) hj dX7_atMarket_23 (fun H locs hP hD hS => ?_)
    obtain ⟨x23, ex23⟩ : ∃ z : Nat → Int32, z = va_up x16 22 0 := ⟨_, rfl⟩
    rw [← ex23] at hP hD
    refine lv_aload_n hx hb dX7_atMarket_24 rfl (lv_at hl 0 rfl) ?_
    refine va_get (D := D) (cl := vwCl) (ci := 6) (v := .ref (r 20)) (C := RX7) (T := TX7) (N := 35) hx hb hts (fun _ h => List.mem_cons_of_mem _ (List.mem_append_right _ h)) hown hK hP 0 rfl rfl 24 (by decide) (hts (.fieldLink RX7 77 "CheapHoursModel" "toBring" "[I") (by decide +kernel)) (fun _ h9 => h9) rfl dX7_atMarket_25 ?_
    refine lv_iload_n hx hb dX7_atMarket_28 rfl (lv_at hl 1 rfl) ?_
    refine lv_aload_n hx hb dX7_atMarket_29 rfl (lv_at hl 0 rfl) ?_
    refine va_get (D := D) (cl := vwCl) (ci := 6) (v := .ref (r 8)) (C := RX7) (T := TX7) (N := 35) hx hb hts (fun _ h => List.mem_cons_of_mem _ (List.mem_append_right _ h)) hown hK hP 0 rfl rfl 12 (by decide) (hts (.fieldLink RX7 41 "CheapHoursModel" "saved" "[I") (by decide +kernel)) (fun _ h9 => h9) rfl dX7_atMarket_30 ?_
    refine lv_iload_n hx hb dX7_atMarket_33 rfl (lv_at hl 1 rfl) ?_
    refine jld (v := (x23 8)) hx hb hK hP 8 (by decide) hj rfl dX7_atMarket_34 ?_
    refine lv_if_le (tgt := 47) hx hb dX7_atMarket_35 (by decide) (fun c_35 => ?_) (fun c_35 => ?_)
    · skip
      refine lv_iconst (v := 0) hx hb dX7_atMarket_47 (by decide) ?_
      refine jst hx hb hK hP hD hS 20 (by decide) hj dX7_atMarket_48 (fun H locs hP hD hS => ?_)
      obtain ⟨x48, ex48⟩ : ∃ z : Nat → Int32, z = va_up x23 20 0 := ⟨_, rfl⟩
      rw [← ex48] at hP hD
      refine lv_aload_n hx hb dX7_atMarket_49 rfl (lv_at hl 0 rfl) ?_
      refine va_get (D := D) (cl := vwCl) (ci := 6) (v := .ref (r 15)) (C := RX7) (T := TX7) (N := 35) hx hb hts (fun _ h => List.mem_cons_of_mem _ (List.mem_append_right _ h)) hown hK hP 0 rfl rfl 19 (by decide) (hts (.fieldLink RX7 62 "CheapHoursModel" "paid" "[I") (by decide +kernel)) (fun _ h9 => h9) rfl dX7_atMarket_50 ?_
      refine lv_iload_n hx hb dX7_atMarket_53 rfl (lv_at hl 1 rfl) ?_
      refine lv_dup2_11 hx hb dX7_atMarket_54 rfl rfl ?_
      refine jld (v := (x48 15)) hx hb hK hP 15 (by decide) hj rfl dX7_atMarket_55 ?_
      refine lv_iload_n hx hb dX7_atMarket_56 rfl (lv_at hl 2 rfl) ?_
      refine lv_iadd hx hb dX7_atMarket_57 ?_
      refine jst hx hb hK hP hD hS 15 (by decide) hj dX7_atMarket_58 (fun H locs hP hD hS => ?_)
      obtain ⟨x58, ex58⟩ : ∃ z : Nat → Int32, z = va_up x48 15 ((x48 15) + p0) := ⟨_, rfl⟩
      rw [← ex58] at hP hD
      refine lv_aload_n hx hb dX7_atMarket_59 rfl (lv_at hl 0 rfl) ?_
      refine va_get (D := D) (cl := vwCl) (ci := 6) (v := .ref (r 20)) (C := RX7) (T := TX7) (N := 35) hx hb hts (fun _ h => List.mem_cons_of_mem _ (List.mem_append_right _ h)) hown hK hP 0 rfl rfl 24 (by decide) (hts (.fieldLink RX7 77 "CheapHoursModel" "toBring" "[I") (by decide +kernel)) (fun _ h9 => h9) rfl dX7_atMarket_60 ?_
      refine lv_iload_n hx hb dX7_atMarket_63 rfl (lv_at hl 1 rfl) ?_
      refine jld (v := (x58 20)) hx hb hK hP 20 (by decide) hj rfl dX7_atMarket_64 ?_
      refine lv_if_le (tgt := 89) hx hb dX7_atMarket_65 (by decide) (fun c_65 => ?_) (fun c_65 => ?_)
      · skip
        refine lv_aload_n hx hb dX7_atMarket_89 rfl (lv_at hl 0 rfl) ?_
        refine va_get (D := D) (cl := vwCl) (ci := 6) (v := .ref (r 21)) (C := RX7) (T := TX7) (N := 35) hx hb hts (fun _ h => List.mem_cons_of_mem _ (List.mem_append_right _ h)) hown hK hP 0 rfl rfl 25 (by decide) (hts (.fieldLink RX7 80 "CheapHoursModel" "toSave" "[I") (by decide +kernel)) (fun _ h9 => h9) rfl dX7_atMarket_90 ?_
        refine lv_iload_n hx hb dX7_atMarket_93 rfl (lv_at hl 1 rfl) ?_
        refine jld (v := (x58 21)) hx hb hK hP 21 (by decide) hj rfl dX7_atMarket_94 ?_
        refine lv_if_le (tgt := 133) hx hb dX7_atMarket_95 (by decide) (fun c_95 => ?_) (fun c_95 => ?_)
        · skip
          refine lv_aload_n hx hb dX7_atMarket_133 rfl (lv_at hl 0 rfl) ?_
          refine va_get (D := D) (cl := vwCl) (ci := 6) (v := .ref (r 11)) (C := RX7) (T := TX7) (N := 35) hx hb hts (fun _ h => List.mem_cons_of_mem _ (List.mem_append_right _ h)) hown hK hP 0 rfl rfl 15 (by decide) (hts (.fieldLink RX7 50 "CheapHoursModel" "worked" "[I") (by decide +kernel)) (fun _ h9 => h9) rfl dX7_atMarket_134 ?_
          refine lv_iload_n hx hb dX7_atMarket_137 rfl (lv_at hl 1 rfl) ?_
          refine lv_dup2_11 hx hb dX7_atMarket_138 rfl rfl ?_
          refine jld (v := (x58 11)) hx hb hK hP 11 (by decide) hj rfl dX7_atMarket_139 ?_
          refine lv_iconst (v := 1) hx hb dX7_atMarket_140 (by decide) ?_
          refine lv_iadd hx hb dX7_atMarket_141 ?_
          refine jst hx hb hK hP hD hS 11 (by decide) hj dX7_atMarket_142 (fun H locs hP hD hS => ?_)
          obtain ⟨x142, ex142⟩ : ∃ z : Nat → Int32, z = va_up x58 11 ((x58 11) + 1) := ⟨_, rfl⟩
          rw [← ex142] at hP hD
          refine lv_aload_n hx hb dX7_atMarket_143 rfl (lv_at hl 0 rfl) ?_
          refine va_get (D := D) (cl := vwCl) (ci := 6) (v := .ref (r 9)) (C := RX7) (T := TX7) (N := 35) hx hb hts (fun _ h => List.mem_cons_of_mem _ (List.mem_append_right _ h)) hown hK hP 0 rfl rfl 13 (by decide) (hts (.fieldLink RX7 44 "CheapHoursModel" "done" "[I") (by decide +kernel)) (fun _ h9 => h9) rfl dX7_atMarket_144 ?_
          refine lv_iload_n hx hb dX7_atMarket_147 rfl (lv_at hl 1 rfl) ?_
          refine lv_dup2_11 hx hb dX7_atMarket_148 rfl rfl ?_
          refine jld (v := (x142 9)) hx hb hK hP 9 (by decide) hj rfl dX7_atMarket_149 ?_
          refine lv_iconst (v := 1) hx hb dX7_atMarket_150 (by decide) ?_
          refine lv_iadd hx hb dX7_atMarket_151 ?_
          refine jst hx hb hK hP hD hS 9 (by decide) hj dX7_atMarket_152 (fun H locs hP hD hS => ?_)
          obtain ⟨x152, ex152⟩ : ∃ z : Nat → Int32, z = va_up x142 9 ((x142 9) + 1) := ⟨_, rfl⟩
          rw [← ex152] at hP hD
          refine lv_aload_n hx hb dX7_atMarket_153 rfl (lv_at hl 0 rfl) ?_
          refine va_get (D := D) (cl := vwCl) (ci := 6) (v := .ref (r 22)) (C := RX7) (T := TX7) (N := 35) hx hb hts (fun _ h => List.mem_cons_of_mem _ (List.mem_append_right _ h)) hown hK hP 0 rfl rfl 26 (by decide) (hts (.fieldLink RX7 83 "CheapHoursModel" "since" "[I") (by decide +kernel)) (fun _ h9 => h9) rfl dX7_atMarket_154 ?_
          refine lv_iload_n hx hb dX7_atMarket_157 rfl (lv_at hl 1 rfl) ?_
          refine lv_dup2_11 hx hb dX7_atMarket_158 rfl rfl ?_
          refine jld (v := (x152 22)) hx hb hK hP 22 (by decide) hj rfl dX7_atMarket_159 ?_
          refine lv_iconst (v := 1) hx hb dX7_atMarket_160 (by decide) ?_
          refine lv_iadd hx hb dX7_atMarket_161 ?_
          refine jst hx hb hK hP hD hS 22 (by decide) hj dX7_atMarket_162 (fun H locs hP hD hS => ?_)
          obtain ⟨x162, ex162⟩ : ∃ z : Nat → Int32, z = va_up x152 22 ((x152 22) + 1) := ⟨_, rfl⟩
          rw [← ex162] at hP hD
          refine lv_aload_n hx hb dX7_atMarket_163 rfl (lv_at hl 0 rfl) ?_
          refine va_get (D := D) (cl := vwCl) (ci := 6) (v := .ref (r 22)) (C := RX7) (T := TX7) (N := 35) hx hb hts (fun _ h => List.mem_cons_of_mem _ (List.mem_append_right _ h)) hown hK hP 0 rfl rfl 26 (by decide) (hts (.fieldLink RX7 83 "CheapHoursModel" "since" "[I") (by decide +kernel)) (fun _ h9 => h9) rfl dX7_atMarket_164 ?_
          refine lv_iload_n hx hb dX7_atMarket_167 rfl (lv_at hl 1 rfl) ?_
          refine jld (v := (x162 22)) hx hb hK hP 22 (by decide) hj rfl dX7_atMarket_168 ?_
          refine lv_aload_n hx hb dX7_atMarket_169 rfl (lv_at hl 0 rfl) ?_
          refine va_get (D := D) (cl := vwCl) (ci := 6) (v := .ref (r 4)) (C := RX7) (T := TX7) (N := 35) hx hb hts (fun _ h => List.mem_cons_of_mem _ (List.mem_append_right _ h)) hown hK hP 0 rfl rfl 8 (by decide) (hts (.fieldLink RX7 29 "CheapHoursModel" "spanOf" "[I") (by decide +kernel)) (fun _ h9 => h9) rfl dX7_atMarket_170 ?_
          refine lv_iload_n hx hb dX7_atMarket_173 rfl (lv_at hl 1 rfl) ?_
          refine jld (v := (x162 4)) hx hb hK hP 4 (by decide) hj rfl dX7_atMarket_174 ?_
          refine lv_icmp_ge (tgt := 201) hx hb dX7_atMarket_175 (by decide) (fun c_175 => ?_) (fun c_175 => ?_)
          · skip
            refine lv_aload_n hx hb dX7_atMarket_201 rfl (lv_at hl 0 rfl) ?_
            refine va_get (D := D) (cl := vwCl) (ci := 6) (v := .ref (r 21)) (C := RX7) (T := TX7) (N := 35) hx hb hts (fun _ h => List.mem_cons_of_mem _ (List.mem_append_right _ h)) hown hK hP 0 rfl rfl 25 (by decide) (hts (.fieldLink RX7 80 "CheapHoursModel" "toSave" "[I") (by decide +kernel)) (fun _ h9 => h9) rfl dX7_atMarket_202 ?_
            refine lv_iload_n hx hb dX7_atMarket_205 rfl (lv_at hl 1 rfl) ?_
            refine lv_aload_n hx hb dX7_atMarket_206 rfl (lv_at hl 0 rfl) ?_
            refine va_get (D := D) (cl := vwCl) (ci := 6) (v := .ref (r 5)) (C := RX7) (T := TX7) (N := 35) hx hb hts (fun _ h => List.mem_cons_of_mem _ (List.mem_append_right _ h)) hown hK hP 0 rfl rfl 9 (by decide) (hts (.fieldLink RX7 32 "CheapHoursModel" "save" "[I") (by decide +kernel)) (fun _ h9 => h9) rfl dX7_atMarket_207 ?_
            refine lv_iload_n hx hb dX7_atMarket_210 rfl (lv_at hl 1 rfl) ?_
            refine jld (v := (x162 5)) hx hb hK hP 5 (by decide) hj rfl dX7_atMarket_211 ?_
            refine jst hx hb hK hP hD hS 21 (by decide) hj dX7_atMarket_212 (fun H locs hP hD hS => ?_)
            obtain ⟨x212, ex212⟩ : ∃ z : Nat → Int32, z = va_up x162 21 (x162 5) := ⟨_, rfl⟩
            rw [← ex212] at hP hD
            refine lv_aload_n hx hb dX7_atMarket_213 rfl (lv_at hl 0 rfl) ?_
            refine va_get (D := D) (cl := vwCl) (ci := 6) (v := .ref (r 21)) (C := RX7) (T := TX7) (N := 35) hx hb hts (fun _ h => List.mem_cons_of_mem _ (List.mem_append_right _ h)) hown hK hP 0 rfl rfl 25 (by decide) (hts (.fieldLink RX7 80 "CheapHoursModel" "toSave" "[I") (by decide +kernel)) (fun _ h9 => h9) rfl dX7_atMarket_214 ?_
            refine lv_iload_n hx hb dX7_atMarket_217 rfl (lv_at hl 1 rfl) ?_
            refine jld (v := (x212 21)) hx hb hK hP 21 (by decide) hj rfl dX7_atMarket_218 ?_
            refine lv_if_ne (tgt := 227) hx hb dX7_atMarket_219 (by decide) (fun c_219 => ?_) (fun c_219 => ?_)
            · skip
              have hrow : rAtMarket p0 row = x212 := by
                subst_vars
                simp only [rAtMarket, rMkA, rMkB, rMkS, rMkW, rMkT, rMkP, rInc, rDec, if_neg c_7, if_pos c_35, if_pos c_65, if_pos c_95, if_pos c_175, if_neg c_219]
              rw [← hrow] at hP hD
              rw [← hQQ]
              exact W.vret hx hb hr (fun t9 ht9 hW9 => ⟨⟨(), rfl, trivial, by rw [ht9]; exact hP, hD⟩, hS.F ht9⟩) hS.2.2 dX7_atMarket_227
            · skip
              refine lv_aload_n hx hb dX7_atMarket_222 rfl (lv_at hl 0 rfl) ?_
              refine lv_iload_n hx hb dX7_atMarket_223 rfl (lv_at hl 1 rfl) ?_
              refine rwVv (As := [.int (nI j)]) (rest := []) ⟨hx, hb, hml, hown, hts⟩ (c_X7_keeps l D cI cL cZ cO H.size a r now full jobs lev pr R lp ch me ru wo co j x212 hj) (cwV 1 hts gX7_atMarket_X7_keeps rfl rfl rfl (by decide +kernel) ⟨Nat.le_of_ble_eq_true rfl, Nat.le_of_ble_eq_true rfl⟩) hO hP hD hS hA (va_recv hK hP (ci := 6) (q0 := 0) rfl rfl) rfl hl.1 rfl (Nat.le_of_ble_eq_true rfl) dX7_atMarket_224 ⟨Nat.le_of_ble_eq_true rfl, Nat.le_of_ble_eq_true rfl⟩ (fun u_224 H locs e_224 hP hD hS => ?_)
              have hP : va_P D vwCl (wM cI cL cZ a r now full jobs lev pr (va_up R j (rKeep x212)) lp ch me ru wo co) H := hP
              have hD : va_D A (wM cI cL cZ a r now full jobs lev pr (va_up R j (rKeep x212)) lp ch me ru wo co) := hD
              have hrow : rAtMarket p0 row = rKeep x212 := by
                subst_vars
                simp only [rAtMarket, rMkA, rMkB, rMkS, rMkW, rMkT, rMkP, rInc, rDec, if_neg c_7, if_pos c_35, if_pos c_65, if_pos c_95, if_pos c_175, if_pos c_219]
              rw [← hrow] at hP hD
              rw [← hQQ]
              exact W.vret hx hb hr (fun t9 ht9 hW9 => ⟨⟨(), rfl, trivial, by rw [ht9]; exact hP, hD⟩, hS.F ht9⟩) hS.2.2 dX7_atMarket_227
          · skip
            refine lv_aload_n hx hb dX7_atMarket_178 rfl (lv_at hl 0 rfl) ?_
            refine va_get (D := D) (cl := vwCl) (ci := 6) (v := .ref (r 8)) (C := RX7) (T := TX7) (N := 35) hx hb hts (fun _ h => List.mem_cons_of_mem _ (List.mem_append_right _ h)) hown hK hP 0 rfl rfl 12 (by decide) (hts (.fieldLink RX7 41 "CheapHoursModel" "saved" "[I") (by decide +kernel)) (fun _ h9 => h9) rfl dX7_atMarket_179 ?_
            refine lv_iload_n hx hb dX7_atMarket_182 rfl (lv_at hl 1 rfl) ?_
            refine jld (v := (x162 8)) hx hb hK hP 8 (by decide) hj rfl dX7_atMarket_183 ?_
            refine lv_aload_n hx hb dX7_atMarket_184 rfl (lv_at hl 0 rfl) ?_
            refine va_get (D := D) (cl := vwCl) (ci := 6) (v := .ref (r 9)) (C := RX7) (T := TX7) (N := 35) hx hb hts (fun _ h => List.mem_cons_of_mem _ (List.mem_append_right _ h)) hown hK hP 0 rfl rfl 13 (by decide) (hts (.fieldLink RX7 44 "CheapHoursModel" "done" "[I") (by decide +kernel)) (fun _ h9 => h9) rfl dX7_atMarket_185 ?_
            refine lv_iload_n hx hb dX7_atMarket_188 rfl (lv_at hl 1 rfl) ?_
            refine jld (v := (x162 9)) hx hb hK hP 9 (by decide) hj rfl dX7_atMarket_189 ?_
            refine lv_iadd hx hb dX7_atMarket_190 ?_
            refine lv_aload_n hx hb dX7_atMarket_191 rfl (lv_at hl 0 rfl) ?_
            refine va_get (D := D) (cl := vwCl) (ci := 6) (v := .ref (r 0)) (C := RX7) (T := TX7) (N := 35) hx hb hts (fun _ h => List.mem_cons_of_mem _ (List.mem_append_right _ h)) hown hK hP 0 rfl rfl 4 (by decide) (hts (.fieldLink RX7 17 "CheapHoursModel" "work" "[I") (by decide +kernel)) (fun _ h9 => h9) rfl dX7_atMarket_192 ?_
            refine lv_iload_n hx hb dX7_atMarket_195 rfl (lv_at hl 1 rfl) ?_
            refine jld (v := (x162 0)) hx hb hK hP 0 (by decide) hj rfl dX7_atMarket_196 ?_
            refine lv_icmp_ge (tgt := 201) hx hb dX7_atMarket_197 (by decide) (fun c_197 => ?_) (fun c_197 => ?_)
            · skip
              refine lv_aload_n hx hb dX7_atMarket_201 rfl (lv_at hl 0 rfl) ?_
              refine va_get (D := D) (cl := vwCl) (ci := 6) (v := .ref (r 21)) (C := RX7) (T := TX7) (N := 35) hx hb hts (fun _ h => List.mem_cons_of_mem _ (List.mem_append_right _ h)) hown hK hP 0 rfl rfl 25 (by decide) (hts (.fieldLink RX7 80 "CheapHoursModel" "toSave" "[I") (by decide +kernel)) (fun _ h9 => h9) rfl dX7_atMarket_202 ?_
              refine lv_iload_n hx hb dX7_atMarket_205 rfl (lv_at hl 1 rfl) ?_
              refine lv_aload_n hx hb dX7_atMarket_206 rfl (lv_at hl 0 rfl) ?_
              refine va_get (D := D) (cl := vwCl) (ci := 6) (v := .ref (r 5)) (C := RX7) (T := TX7) (N := 35) hx hb hts (fun _ h => List.mem_cons_of_mem _ (List.mem_append_right _ h)) hown hK hP 0 rfl rfl 9 (by decide) (hts (.fieldLink RX7 32 "CheapHoursModel" "save" "[I") (by decide +kernel)) (fun _ h9 => h9) rfl dX7_atMarket_207 ?_
              refine lv_iload_n hx hb dX7_atMarket_210 rfl (lv_at hl 1 rfl) ?_
              refine jld (v := (x162 5)) hx hb hK hP 5 (by decide) hj rfl dX7_atMarket_211 ?_
              refine jst hx hb hK hP hD hS 21 (by decide) hj dX7_atMarket_212 (fun H locs hP hD hS => ?_)
              obtain ⟨x212, ex212⟩ : ∃ z : Nat → Int32, z = va_up x162 21 (x162 5) := ⟨_, rfl⟩
              rw [← ex212] at hP hD
              refine lv_aload_n hx hb dX7_atMarket_213 rfl (lv_at hl 0 rfl) ?_
              refine va_get (D := D) (cl := vwCl) (ci := 6) (v := .ref (r 21)) (C := RX7) (T := TX7) (N := 35) hx hb hts (fun _ h => List.mem_cons_of_mem _ (List.mem_append_right _ h)) hown hK hP 0 rfl rfl 25 (by decide) (hts (.fieldLink RX7 80 "CheapHoursModel" "toSave" "[I") (by decide +kernel)) (fun _ h9 => h9) rfl dX7_atMarket_214 ?_
              refine lv_iload_n hx hb dX7_atMarket_217 rfl (lv_at hl 1 rfl) ?_
              refine jld (v := (x212 21)) hx hb hK hP 21 (by decide) hj rfl dX7_atMarket_218 ?_
              refine lv_if_ne (tgt := 227) hx hb dX7_atMarket_219 (by decide) (fun c_219 => ?_) (fun c_219 => ?_)
              · skip
                have hrow : rAtMarket p0 row = x212 := by
                  subst_vars
                  simp only [rAtMarket, rMkA, rMkB, rMkS, rMkW, rMkT, rMkP, rInc, rDec, if_neg c_7, if_pos c_35, if_pos c_65, if_pos c_95, if_neg c_175, if_pos c_197, if_neg c_219]
                rw [← hrow] at hP hD
                rw [← hQQ]
                exact W.vret hx hb hr (fun t9 ht9 hW9 => ⟨⟨(), rfl, trivial, by rw [ht9]; exact hP, hD⟩, hS.F ht9⟩) hS.2.2 dX7_atMarket_227
              · skip
                refine lv_aload_n hx hb dX7_atMarket_222 rfl (lv_at hl 0 rfl) ?_
                refine lv_iload_n hx hb dX7_atMarket_223 rfl (lv_at hl 1 rfl) ?_
                refine rwVv (As := [.int (nI j)]) (rest := []) ⟨hx, hb, hml, hown, hts⟩ (c_X7_keeps l D cI cL cZ cO H.size a r now full jobs lev pr R lp ch me ru wo co j x212 hj) (cwV 1 hts gX7_atMarket_X7_keeps rfl rfl rfl (by decide +kernel) ⟨Nat.le_of_ble_eq_true rfl, Nat.le_of_ble_eq_true rfl⟩) hO hP hD hS hA (va_recv hK hP (ci := 6) (q0 := 0) rfl rfl) rfl hl.1 rfl (Nat.le_of_ble_eq_true rfl) dX7_atMarket_224 ⟨Nat.le_of_ble_eq_true rfl, Nat.le_of_ble_eq_true rfl⟩ (fun u_224 H locs e_224 hP hD hS => ?_)
                have hP : va_P D vwCl (wM cI cL cZ a r now full jobs lev pr (va_up R j (rKeep x212)) lp ch me ru wo co) H := hP
                have hD : va_D A (wM cI cL cZ a r now full jobs lev pr (va_up R j (rKeep x212)) lp ch me ru wo co) := hD
                have hrow : rAtMarket p0 row = rKeep x212 := by
                  subst_vars
                  simp only [rAtMarket, rMkA, rMkB, rMkS, rMkW, rMkT, rMkP, rInc, rDec, if_neg c_7, if_pos c_35, if_pos c_65, if_pos c_95, if_neg c_175, if_pos c_197, if_pos c_219]
                rw [← hrow] at hP hD
                rw [← hQQ]
                exact W.vret hx hb hr (fun t9 ht9 hW9 => ⟨⟨(), rfl, trivial, by rw [ht9]; exact hP, hD⟩, hS.F ht9⟩) hS.2.2 dX7_atMarket_227
            · skip
              have hrow : rAtMarket p0 row = x162 := by
                subst_vars
                simp only [rAtMarket, rMkA, rMkB, rMkS, rMkW, rMkT, rMkP, rInc, rDec, if_neg c_7, if_pos c_35, if_pos c_65, if_pos c_95, if_neg c_175, if_neg c_197]
              rw [← hrow] at hP hD
              rw [← hQQ]
              exact W.vret hx hb hr (fun t9 ht9 hW9 => ⟨⟨(), rfl, trivial, by rw [ht9]; exact hP, hD⟩, hS.F ht9⟩) hS.2.2 dX7_atMarket_200
        · skip
          refine lv_aload_n hx hb dX7_atMarket_98 rfl (lv_at hl 0 rfl) ?_
          refine va_get (D := D) (cl := vwCl) (ci := 6) (v := .ref (r 21)) (C := RX7) (T := TX7) (N := 35) hx hb hts (fun _ h => List.mem_cons_of_mem _ (List.mem_append_right _ h)) hown hK hP 0 rfl rfl 25 (by decide) (hts (.fieldLink RX7 80 "CheapHoursModel" "toSave" "[I") (by decide +kernel)) (fun _ h9 => h9) rfl dX7_atMarket_99 ?_
          refine lv_iload_n hx hb dX7_atMarket_102 rfl (lv_at hl 1 rfl) ?_
          refine lv_dup2_11 hx hb dX7_atMarket_103 rfl rfl ?_
          refine jld (v := (x58 21)) hx hb hK hP 21 (by decide) hj rfl dX7_atMarket_104 ?_
          refine lv_iconst (v := 1) hx hb dX7_atMarket_105 (by decide) ?_
          refine lv_isub hx hb dX7_atMarket_106 ?_
          refine jst hx hb hK hP hD hS 21 (by decide) hj dX7_atMarket_107 (fun H locs hP hD hS => ?_)
          obtain ⟨x107, ex107⟩ : ∃ z : Nat → Int32, z = va_up x58 21 ((x58 21) - 1) := ⟨_, rfl⟩
          rw [← ex107] at hP hD
          refine lv_aload_n hx hb dX7_atMarket_108 rfl (lv_at hl 0 rfl) ?_
          refine va_get (D := D) (cl := vwCl) (ci := 6) (v := .ref (r 13)) (C := RX7) (T := TX7) (N := 35) hx hb hts (fun _ h => List.mem_cons_of_mem _ (List.mem_append_right _ h)) hown hK hP 0 rfl rfl 17 (by decide) (hts (.fieldLink RX7 56 "CheapHoursModel" "saving" "[I") (by decide +kernel)) (fun _ h9 => h9) rfl dX7_atMarket_109 ?_
          refine lv_iload_n hx hb dX7_atMarket_112 rfl (lv_at hl 1 rfl) ?_
          refine lv_dup2_11 hx hb dX7_atMarket_113 rfl rfl ?_
          refine jld (v := (x107 13)) hx hb hK hP 13 (by decide) hj rfl dX7_atMarket_114 ?_
          refine lv_iconst (v := 1) hx hb dX7_atMarket_115 (by decide) ?_
          refine lv_iadd hx hb dX7_atMarket_116 ?_
          refine jst hx hb hK hP hD hS 13 (by decide) hj dX7_atMarket_117 (fun H locs hP hD hS => ?_)
          obtain ⟨x117, ex117⟩ : ∃ z : Nat → Int32, z = va_up x107 13 ((x107 13) + 1) := ⟨_, rfl⟩
          rw [← ex117] at hP hD
          refine lv_aload_n hx hb dX7_atMarket_118 rfl (lv_at hl 0 rfl) ?_
          refine va_get (D := D) (cl := vwCl) (ci := 6) (v := .ref (r 21)) (C := RX7) (T := TX7) (N := 35) hx hb hts (fun _ h => List.mem_cons_of_mem _ (List.mem_append_right _ h)) hown hK hP 0 rfl rfl 25 (by decide) (hts (.fieldLink RX7 80 "CheapHoursModel" "toSave" "[I") (by decide +kernel)) (fun _ h9 => h9) rfl dX7_atMarket_119 ?_
          refine lv_iload_n hx hb dX7_atMarket_122 rfl (lv_at hl 1 rfl) ?_
          refine jld (v := (x117 21)) hx hb hK hP 21 (by decide) hj rfl dX7_atMarket_123 ?_
          refine lv_if_ne (tgt := 132) hx hb dX7_atMarket_124 (by decide) (fun c_124 => ?_) (fun c_124 => ?_)
          · skip
            have hrow : rAtMarket p0 row = x117 := by
              subst_vars
              simp only [rAtMarket, rMkA, rMkB, rMkS, rMkW, rMkT, rMkP, rInc, rDec, if_neg c_7, if_pos c_35, if_pos c_65, if_neg c_95, if_neg c_124]
            rw [← hrow] at hP hD
            rw [← hQQ]
            exact W.vret hx hb hr (fun t9 ht9 hW9 => ⟨⟨(), rfl, trivial, by rw [ht9]; exact hP, hD⟩, hS.F ht9⟩) hS.2.2 dX7_atMarket_132
          · skip
            refine lv_aload_n hx hb dX7_atMarket_127 rfl (lv_at hl 0 rfl) ?_
            refine lv_iload_n hx hb dX7_atMarket_128 rfl (lv_at hl 1 rfl) ?_
            refine rwVv (As := [.int (nI j)]) (rest := []) ⟨hx, hb, hml, hown, hts⟩ (c_X7_keeps l D cI cL cZ cO H.size a r now full jobs lev pr R lp ch me ru wo co j x117 hj) (cwV 1 hts gX7_atMarket_X7_keeps rfl rfl rfl (by decide +kernel) ⟨Nat.le_of_ble_eq_true rfl, Nat.le_of_ble_eq_true rfl⟩) hO hP hD hS hA (va_recv hK hP (ci := 6) (q0 := 0) rfl rfl) rfl hl.1 rfl (Nat.le_of_ble_eq_true rfl) dX7_atMarket_129 ⟨Nat.le_of_ble_eq_true rfl, Nat.le_of_ble_eq_true rfl⟩ (fun u_129 H locs e_129 hP hD hS => ?_)
            have hP : va_P D vwCl (wM cI cL cZ a r now full jobs lev pr (va_up R j (rKeep x117)) lp ch me ru wo co) H := hP
            have hD : va_D A (wM cI cL cZ a r now full jobs lev pr (va_up R j (rKeep x117)) lp ch me ru wo co) := hD
            have hrow : rAtMarket p0 row = rKeep x117 := by
              subst_vars
              simp only [rAtMarket, rMkA, rMkB, rMkS, rMkW, rMkT, rMkP, rInc, rDec, if_neg c_7, if_pos c_35, if_pos c_65, if_neg c_95, if_pos c_124]
            rw [← hrow] at hP hD
            rw [← hQQ]
            exact W.vret hx hb hr (fun t9 ht9 hW9 => ⟨⟨(), rfl, trivial, by rw [ht9]; exact hP, hD⟩, hS.F ht9⟩) hS.2.2 dX7_atMarket_132
      · skip
        refine lv_aload_n hx hb dX7_atMarket_68 rfl (lv_at hl 0 rfl) ?_
        refine va_get (D := D) (cl := vwCl) (ci := 6) (v := .ref (r 20)) (C := RX7) (T := TX7) (N := 35) hx hb hts (fun _ h => List.mem_cons_of_mem _ (List.mem_append_right _ h)) hown hK hP 0 rfl rfl 24 (by decide) (hts (.fieldLink RX7 77 "CheapHoursModel" "toBring" "[I") (by decide +kernel)) (fun _ h9 => h9) rfl dX7_atMarket_69 ?_
        refine lv_iload_n hx hb dX7_atMarket_72 rfl (lv_at hl 1 rfl) ?_
        refine lv_dup2_11 hx hb dX7_atMarket_73 rfl rfl ?_
        refine jld (v := (x58 20)) hx hb hK hP 20 (by decide) hj rfl dX7_atMarket_74 ?_
        refine lv_iconst (v := 1) hx hb dX7_atMarket_75 (by decide) ?_
        refine lv_isub hx hb dX7_atMarket_76 ?_
        refine jst hx hb hK hP hD hS 20 (by decide) hj dX7_atMarket_77 (fun H locs hP hD hS => ?_)
        obtain ⟨x77, ex77⟩ : ∃ z : Nat → Int32, z = va_up x58 20 ((x58 20) - 1) := ⟨_, rfl⟩
        rw [← ex77] at hP hD
        refine lv_aload_n hx hb dX7_atMarket_78 rfl (lv_at hl 0 rfl) ?_
        refine va_get (D := D) (cl := vwCl) (ci := 6) (v := .ref (r 12)) (C := RX7) (T := TX7) (N := 35) hx hb hts (fun _ h => List.mem_cons_of_mem _ (List.mem_append_right _ h)) hown hK hP 0 rfl rfl 16 (by decide) (hts (.fieldLink RX7 53 "CheapHoursModel" "brought" "[I") (by decide +kernel)) (fun _ h9 => h9) rfl dX7_atMarket_79 ?_
        refine lv_iload_n hx hb dX7_atMarket_82 rfl (lv_at hl 1 rfl) ?_
        refine lv_dup2_11 hx hb dX7_atMarket_83 rfl rfl ?_
        refine jld (v := (x77 12)) hx hb hK hP 12 (by decide) hj rfl dX7_atMarket_84 ?_
        refine lv_iconst (v := 1) hx hb dX7_atMarket_85 (by decide) ?_
        refine lv_iadd hx hb dX7_atMarket_86 ?_
        refine jst hx hb hK hP hD hS 12 (by decide) hj dX7_atMarket_87 (fun H locs hP hD hS => ?_)
        obtain ⟨x87, ex87⟩ : ∃ z : Nat → Int32, z = va_up x77 12 ((x77 12) + 1) := ⟨_, rfl⟩
        rw [← ex87] at hP hD
        have hrow : rAtMarket p0 row = x87 := by
          subst_vars
          simp only [rAtMarket, rMkA, rMkB, rMkS, rMkW, rMkT, rMkP, rInc, rDec, if_neg c_7, if_pos c_35, if_neg c_65]
        rw [← hrow] at hP hD
        rw [← hQQ]
        exact W.vret hx hb hr (fun t9 ht9 hW9 => ⟨⟨(), rfl, trivial, by rw [ht9]; exact hP, hD⟩, hS.F ht9⟩) hS.2.2 dX7_atMarket_88
    · skip
      refine lv_aload_n hx hb dX7_atMarket_38 rfl (lv_at hl 0 rfl) ?_
      refine va_get (D := D) (cl := vwCl) (ci := 6) (v := .ref (r 6)) (C := RX7) (T := TX7) (N := 35) hx hb hts (fun _ h => List.mem_cons_of_mem _ (List.mem_append_right _ h)) hown hK hP 0 rfl rfl 10 (by decide) (hts (.fieldLink RX7 35 "CheapHoursModel" "bring" "[I") (by decide +kernel)) (fun _ h9 => h9) rfl dX7_atMarket_39 ?_
      refine lv_iload_n hx hb dX7_atMarket_42 rfl (lv_at hl 1 rfl) ?_
      refine jld (v := (x23 6)) hx hb hK hP 6 (by decide) hj rfl dX7_atMarket_43 ?_
      refine lv_goto (tgt := 48) hx hb dX7_atMarket_44 (by decide) ?_
      refine jst hx hb hK hP hD hS 20 (by decide) hj dX7_atMarket_48 (fun H locs hP hD hS => ?_)
      obtain ⟨x48, ex48⟩ : ∃ z : Nat → Int32, z = va_up x23 20 (x23 6) := ⟨_, rfl⟩
      rw [← ex48] at hP hD
      refine lv_aload_n hx hb dX7_atMarket_49 rfl (lv_at hl 0 rfl) ?_
      refine va_get (D := D) (cl := vwCl) (ci := 6) (v := .ref (r 15)) (C := RX7) (T := TX7) (N := 35) hx hb hts (fun _ h => List.mem_cons_of_mem _ (List.mem_append_right _ h)) hown hK hP 0 rfl rfl 19 (by decide) (hts (.fieldLink RX7 62 "CheapHoursModel" "paid" "[I") (by decide +kernel)) (fun _ h9 => h9) rfl dX7_atMarket_50 ?_
      refine lv_iload_n hx hb dX7_atMarket_53 rfl (lv_at hl 1 rfl) ?_
      refine lv_dup2_11 hx hb dX7_atMarket_54 rfl rfl ?_
      refine jld (v := (x48 15)) hx hb hK hP 15 (by decide) hj rfl dX7_atMarket_55 ?_
      refine lv_iload_n hx hb dX7_atMarket_56 rfl (lv_at hl 2 rfl) ?_
      refine lv_iadd hx hb dX7_atMarket_57 ?_
      refine jst hx hb hK hP hD hS 15 (by decide) hj dX7_atMarket_58 (fun H locs hP hD hS => ?_)
      obtain ⟨x58, ex58⟩ : ∃ z : Nat → Int32, z = va_up x48 15 ((x48 15) + p0) := ⟨_, rfl⟩
      rw [← ex58] at hP hD
      refine lv_aload_n hx hb dX7_atMarket_59 rfl (lv_at hl 0 rfl) ?_
      refine va_get (D := D) (cl := vwCl) (ci := 6) (v := .ref (r 20)) (C := RX7) (T := TX7) (N := 35) hx hb hts (fun _ h => List.mem_cons_of_mem _ (List.mem_append_right _ h)) hown hK hP 0 rfl rfl 24 (by decide) (hts (.fieldLink RX7 77 "CheapHoursModel" "toBring" "[I") (by decide +kernel)) (fun _ h9 => h9) rfl dX7_atMarket_60 ?_
      refine lv_iload_n hx hb dX7_atMarket_63 rfl (lv_at hl 1 rfl) ?_
      refine jld (v := (x58 20)) hx hb hK hP 20 (by decide) hj rfl dX7_atMarket_64 ?_
      refine lv_if_le (tgt := 89) hx hb dX7_atMarket_65 (by decide) (fun c_65 => ?_) (fun c_65 => ?_)
      · skip
        refine lv_aload_n hx hb dX7_atMarket_89 rfl (lv_at hl 0 rfl) ?_
        refine va_get (D := D) (cl := vwCl) (ci := 6) (v := .ref (r 21)) (C := RX7) (T := TX7) (N := 35) hx hb hts (fun _ h => List.mem_cons_of_mem _ (List.mem_append_right _ h)) hown hK hP 0 rfl rfl 25 (by decide) (hts (.fieldLink RX7 80 "CheapHoursModel" "toSave" "[I") (by decide +kernel)) (fun _ h9 => h9) rfl dX7_atMarket_90 ?_
        refine lv_iload_n hx hb dX7_atMarket_93 rfl (lv_at hl 1 rfl) ?_
        refine jld (v := (x58 21)) hx hb hK hP 21 (by decide) hj rfl dX7_atMarket_94 ?_
        refine lv_if_le (tgt := 133) hx hb dX7_atMarket_95 (by decide) (fun c_95 => ?_) (fun c_95 => ?_)
        · skip
          refine lv_aload_n hx hb dX7_atMarket_133 rfl (lv_at hl 0 rfl) ?_
          refine va_get (D := D) (cl := vwCl) (ci := 6) (v := .ref (r 11)) (C := RX7) (T := TX7) (N := 35) hx hb hts (fun _ h => List.mem_cons_of_mem _ (List.mem_append_right _ h)) hown hK hP 0 rfl rfl 15 (by decide) (hts (.fieldLink RX7 50 "CheapHoursModel" "worked" "[I") (by decide +kernel)) (fun _ h9 => h9) rfl dX7_atMarket_134 ?_
          refine lv_iload_n hx hb dX7_atMarket_137 rfl (lv_at hl 1 rfl) ?_
          refine lv_dup2_11 hx hb dX7_atMarket_138 rfl rfl ?_
          refine jld (v := (x58 11)) hx hb hK hP 11 (by decide) hj rfl dX7_atMarket_139 ?_
          refine lv_iconst (v := 1) hx hb dX7_atMarket_140 (by decide) ?_
          refine lv_iadd hx hb dX7_atMarket_141 ?_
          refine jst hx hb hK hP hD hS 11 (by decide) hj dX7_atMarket_142 (fun H locs hP hD hS => ?_)
          obtain ⟨x142, ex142⟩ : ∃ z : Nat → Int32, z = va_up x58 11 ((x58 11) + 1) := ⟨_, rfl⟩
          rw [← ex142] at hP hD
          refine lv_aload_n hx hb dX7_atMarket_143 rfl (lv_at hl 0 rfl) ?_
          refine va_get (D := D) (cl := vwCl) (ci := 6) (v := .ref (r 9)) (C := RX7) (T := TX7) (N := 35) hx hb hts (fun _ h => List.mem_cons_of_mem _ (List.mem_append_right _ h)) hown hK hP 0 rfl rfl 13 (by decide) (hts (.fieldLink RX7 44 "CheapHoursModel" "done" "[I") (by decide +kernel)) (fun _ h9 => h9) rfl dX7_atMarket_144 ?_
          refine lv_iload_n hx hb dX7_atMarket_147 rfl (lv_at hl 1 rfl) ?_
          refine lv_dup2_11 hx hb dX7_atMarket_148 rfl rfl ?_
          refine jld (v := (x142 9)) hx hb hK hP 9 (by decide) hj rfl dX7_atMarket_149 ?_
          refine lv_iconst (v := 1) hx hb dX7_atMarket_150 (by decide) ?_
          refine lv_iadd hx hb dX7_atMarket_151 ?_
          refine jst hx hb hK hP hD hS 9 (by decide) hj dX7_atMarket_152 (fun H locs hP hD hS => ?_)
          obtain ⟨x152, ex152⟩ : ∃ z : Nat → Int32, z = va_up x142 9 ((x142 9) + 1) := ⟨_, rfl⟩
          rw [← ex152] at hP hD
          refine lv_aload_n hx hb dX7_atMarket_153 rfl (lv_at hl 0 rfl) ?_
          refine va_get (D := D) (cl := vwCl) (ci := 6) (v := .ref (r 22)) (C := RX7) (T := TX7) (N := 35) hx hb hts (fun _ h => List.mem_cons_of_mem _ (List.mem_append_right _ h)) hown hK hP 0 rfl rfl 26 (by decide) (hts (.fieldLink RX7 83 "CheapHoursModel" "since" "[I") (by decide +kernel)) (fun _ h9 => h9) rfl dX7_atMarket_154 ?_
          refine lv_iload_n hx hb dX7_atMarket_157 rfl (lv_at hl 1 rfl) ?_
          refine lv_dup2_11 hx hb dX7_atMarket_158 rfl rfl ?_
          refine jld (v := (x152 22)) hx hb hK hP 22 (by decide) hj rfl dX7_atMarket_159 ?_
          refine lv_iconst (v := 1) hx hb dX7_atMarket_160 (by decide) ?_
          refine lv_iadd hx hb dX7_atMarket_161 ?_
          refine jst hx hb hK hP hD hS 22 (by decide) hj dX7_atMarket_162 (fun H locs hP hD hS => ?_)
          obtain ⟨x162, ex162⟩ : ∃ z : Nat → Int32, z = va_up x152 22 ((x152 22) + 1) := ⟨_, rfl⟩
          rw [← ex162] at hP hD
          refine lv_aload_n hx hb dX7_atMarket_163 rfl (lv_at hl 0 rfl) ?_
          refine va_get (D := D) (cl := vwCl) (ci := 6) (v := .ref (r 22)) (C := RX7) (T := TX7) (N := 35) hx hb hts (fun _ h => List.mem_cons_of_mem _ (List.mem_append_right _ h)) hown hK hP 0 rfl rfl 26 (by decide) (hts (.fieldLink RX7 83 "CheapHoursModel" "since" "[I") (by decide +kernel)) (fun _ h9 => h9) rfl dX7_atMarket_164 ?_
          refine lv_iload_n hx hb dX7_atMarket_167 rfl (lv_at hl 1 rfl) ?_
          refine jld (v := (x162 22)) hx hb hK hP 22 (by decide) hj rfl dX7_atMarket_168 ?_
          refine lv_aload_n hx hb dX7_atMarket_169 rfl (lv_at hl 0 rfl) ?_
          refine va_get (D := D) (cl := vwCl) (ci := 6) (v := .ref (r 4)) (C := RX7) (T := TX7) (N := 35) hx hb hts (fun _ h => List.mem_cons_of_mem _ (List.mem_append_right _ h)) hown hK hP 0 rfl rfl 8 (by decide) (hts (.fieldLink RX7 29 "CheapHoursModel" "spanOf" "[I") (by decide +kernel)) (fun _ h9 => h9) rfl dX7_atMarket_170 ?_
          refine lv_iload_n hx hb dX7_atMarket_173 rfl (lv_at hl 1 rfl) ?_
          refine jld (v := (x162 4)) hx hb hK hP 4 (by decide) hj rfl dX7_atMarket_174 ?_
          refine lv_icmp_ge (tgt := 201) hx hb dX7_atMarket_175 (by decide) (fun c_175 => ?_) (fun c_175 => ?_)
          · skip
            refine lv_aload_n hx hb dX7_atMarket_201 rfl (lv_at hl 0 rfl) ?_
            refine va_get (D := D) (cl := vwCl) (ci := 6) (v := .ref (r 21)) (C := RX7) (T := TX7) (N := 35) hx hb hts (fun _ h => List.mem_cons_of_mem _ (List.mem_append_right _ h)) hown hK hP 0 rfl rfl 25 (by decide) (hts (.fieldLink RX7 80 "CheapHoursModel" "toSave" "[I") (by decide +kernel)) (fun _ h9 => h9) rfl dX7_atMarket_202 ?_
            refine lv_iload_n hx hb dX7_atMarket_205 rfl (lv_at hl 1 rfl) ?_
            refine lv_aload_n hx hb dX7_atMarket_206 rfl (lv_at hl 0 rfl) ?_
            refine va_get (D := D) (cl := vwCl) (ci := 6) (v := .ref (r 5)) (C := RX7) (T := TX7) (N := 35) hx hb hts (fun _ h => List.mem_cons_of_mem _ (List.mem_append_right _ h)) hown hK hP 0 rfl rfl 9 (by decide) (hts (.fieldLink RX7 32 "CheapHoursModel" "save" "[I") (by decide +kernel)) (fun _ h9 => h9) rfl dX7_atMarket_207 ?_
            refine lv_iload_n hx hb dX7_atMarket_210 rfl (lv_at hl 1 rfl) ?_
            refine jld (v := (x162 5)) hx hb hK hP 5 (by decide) hj rfl dX7_atMarket_211 ?_
            refine jst hx hb hK hP hD hS 21 (by decide) hj dX7_atMarket_212 (fun H locs hP hD hS => ?_)
            obtain ⟨x212, ex212⟩ : ∃ z : Nat → Int32, z = va_up x162 21 (x162 5) := ⟨_, rfl⟩
            rw [← ex212] at hP hD
            refine lv_aload_n hx hb dX7_atMarket_213 rfl (lv_at hl 0 rfl) ?_
            refine va_get (D := D) (cl := vwCl) (ci := 6) (v := .ref (r 21)) (C := RX7) (T := TX7) (N := 35) hx hb hts (fun _ h => List.mem_cons_of_mem _ (List.mem_append_right _ h)) hown hK hP 0 rfl rfl 25 (by decide) (hts (.fieldLink RX7 80 "CheapHoursModel" "toSave" "[I") (by decide +kernel)) (fun _ h9 => h9) rfl dX7_atMarket_214 ?_
            refine lv_iload_n hx hb dX7_atMarket_217 rfl (lv_at hl 1 rfl) ?_
            refine jld (v := (x212 21)) hx hb hK hP 21 (by decide) hj rfl dX7_atMarket_218 ?_
            refine lv_if_ne (tgt := 227) hx hb dX7_atMarket_219 (by decide) (fun c_219 => ?_) (fun c_219 => ?_)
            · skip
              have hrow : rAtMarket p0 row = x212 := by
                subst_vars
                simp only [rAtMarket, rMkA, rMkB, rMkS, rMkW, rMkT, rMkP, rInc, rDec, if_neg c_7, if_neg c_35, if_pos c_65, if_pos c_95, if_pos c_175, if_neg c_219]
              rw [← hrow] at hP hD
              rw [← hQQ]
              exact W.vret hx hb hr (fun t9 ht9 hW9 => ⟨⟨(), rfl, trivial, by rw [ht9]; exact hP, hD⟩, hS.F ht9⟩) hS.2.2 dX7_atMarket_227
            · skip
              refine lv_aload_n hx hb dX7_atMarket_222 rfl (lv_at hl 0 rfl) ?_
              refine lv_iload_n hx hb dX7_atMarket_223 rfl (lv_at hl 1 rfl) ?_
              refine rwVv (As := [.int (nI j)]) (rest := []) ⟨hx, hb, hml, hown, hts⟩ (c_X7_keeps l D cI cL cZ cO H.size a r now full jobs lev pr R lp ch me ru wo co j x212 hj) (cwV 1 hts gX7_atMarket_X7_keeps rfl rfl rfl (by decide +kernel) ⟨Nat.le_of_ble_eq_true rfl, Nat.le_of_ble_eq_true rfl⟩) hO hP hD hS hA (va_recv hK hP (ci := 6) (q0 := 0) rfl rfl) rfl hl.1 rfl (Nat.le_of_ble_eq_true rfl) dX7_atMarket_224 ⟨Nat.le_of_ble_eq_true rfl, Nat.le_of_ble_eq_true rfl⟩ (fun u_224 H locs e_224 hP hD hS => ?_)
              have hP : va_P D vwCl (wM cI cL cZ a r now full jobs lev pr (va_up R j (rKeep x212)) lp ch me ru wo co) H := hP
              have hD : va_D A (wM cI cL cZ a r now full jobs lev pr (va_up R j (rKeep x212)) lp ch me ru wo co) := hD
              have hrow : rAtMarket p0 row = rKeep x212 := by
                subst_vars
                simp only [rAtMarket, rMkA, rMkB, rMkS, rMkW, rMkT, rMkP, rInc, rDec, if_neg c_7, if_neg c_35, if_pos c_65, if_pos c_95, if_pos c_175, if_pos c_219]
              rw [← hrow] at hP hD
              rw [← hQQ]
              exact W.vret hx hb hr (fun t9 ht9 hW9 => ⟨⟨(), rfl, trivial, by rw [ht9]; exact hP, hD⟩, hS.F ht9⟩) hS.2.2 dX7_atMarket_227
          · skip
            refine lv_aload_n hx hb dX7_atMarket_178 rfl (lv_at hl 0 rfl) ?_
            refine va_get (D := D) (cl := vwCl) (ci := 6) (v := .ref (r 8)) (C := RX7) (T := TX7) (N := 35) hx hb hts (fun _ h => List.mem_cons_of_mem _ (List.mem_append_right _ h)) hown hK hP 0 rfl rfl 12 (by decide) (hts (.fieldLink RX7 41 "CheapHoursModel" "saved" "[I") (by decide +kernel)) (fun _ h9 => h9) rfl dX7_atMarket_179 ?_
            refine lv_iload_n hx hb dX7_atMarket_182 rfl (lv_at hl 1 rfl) ?_
            refine jld (v := (x162 8)) hx hb hK hP 8 (by decide) hj rfl dX7_atMarket_183 ?_
            refine lv_aload_n hx hb dX7_atMarket_184 rfl (lv_at hl 0 rfl) ?_
            refine va_get (D := D) (cl := vwCl) (ci := 6) (v := .ref (r 9)) (C := RX7) (T := TX7) (N := 35) hx hb hts (fun _ h => List.mem_cons_of_mem _ (List.mem_append_right _ h)) hown hK hP 0 rfl rfl 13 (by decide) (hts (.fieldLink RX7 44 "CheapHoursModel" "done" "[I") (by decide +kernel)) (fun _ h9 => h9) rfl dX7_atMarket_185 ?_
            refine lv_iload_n hx hb dX7_atMarket_188 rfl (lv_at hl 1 rfl) ?_
            refine jld (v := (x162 9)) hx hb hK hP 9 (by decide) hj rfl dX7_atMarket_189 ?_
            refine lv_iadd hx hb dX7_atMarket_190 ?_
            refine lv_aload_n hx hb dX7_atMarket_191 rfl (lv_at hl 0 rfl) ?_
            refine va_get (D := D) (cl := vwCl) (ci := 6) (v := .ref (r 0)) (C := RX7) (T := TX7) (N := 35) hx hb hts (fun _ h => List.mem_cons_of_mem _ (List.mem_append_right _ h)) hown hK hP 0 rfl rfl 4 (by decide) (hts (.fieldLink RX7 17 "CheapHoursModel" "work" "[I") (by decide +kernel)) (fun _ h9 => h9) rfl dX7_atMarket_192 ?_
            refine lv_iload_n hx hb dX7_atMarket_195 rfl (lv_at hl 1 rfl) ?_
            refine jld (v := (x162 0)) hx hb hK hP 0 (by decide) hj rfl dX7_atMarket_196 ?_
            refine lv_icmp_ge (tgt := 201) hx hb dX7_atMarket_197 (by decide) (fun c_197 => ?_) (fun c_197 => ?_)
            · skip
              refine lv_aload_n hx hb dX7_atMarket_201 rfl (lv_at hl 0 rfl) ?_
              refine va_get (D := D) (cl := vwCl) (ci := 6) (v := .ref (r 21)) (C := RX7) (T := TX7) (N := 35) hx hb hts (fun _ h => List.mem_cons_of_mem _ (List.mem_append_right _ h)) hown hK hP 0 rfl rfl 25 (by decide) (hts (.fieldLink RX7 80 "CheapHoursModel" "toSave" "[I") (by decide +kernel)) (fun _ h9 => h9) rfl dX7_atMarket_202 ?_
              refine lv_iload_n hx hb dX7_atMarket_205 rfl (lv_at hl 1 rfl) ?_
              refine lv_aload_n hx hb dX7_atMarket_206 rfl (lv_at hl 0 rfl) ?_
              refine va_get (D := D) (cl := vwCl) (ci := 6) (v := .ref (r 5)) (C := RX7) (T := TX7) (N := 35) hx hb hts (fun _ h => List.mem_cons_of_mem _ (List.mem_append_right _ h)) hown hK hP 0 rfl rfl 9 (by decide) (hts (.fieldLink RX7 32 "CheapHoursModel" "save" "[I") (by decide +kernel)) (fun _ h9 => h9) rfl dX7_atMarket_207 ?_
              refine lv_iload_n hx hb dX7_atMarket_210 rfl (lv_at hl 1 rfl) ?_
              refine jld (v := (x162 5)) hx hb hK hP 5 (by decide) hj rfl dX7_atMarket_211 ?_
              refine jst hx hb hK hP hD hS 21 (by decide) hj dX7_atMarket_212 (fun H locs hP hD hS => ?_)
              obtain ⟨x212, ex212⟩ : ∃ z : Nat → Int32, z = va_up x162 21 (x162 5) := ⟨_, rfl⟩
              rw [← ex212] at hP hD
              refine lv_aload_n hx hb dX7_atMarket_213 rfl (lv_at hl 0 rfl) ?_
              refine va_get (D := D) (cl := vwCl) (ci := 6) (v := .ref (r 21)) (C := RX7) (T := TX7) (N := 35) hx hb hts (fun _ h => List.mem_cons_of_mem _ (List.mem_append_right _ h)) hown hK hP 0 rfl rfl 25 (by decide) (hts (.fieldLink RX7 80 "CheapHoursModel" "toSave" "[I") (by decide +kernel)) (fun _ h9 => h9) rfl dX7_atMarket_214 ?_
              refine lv_iload_n hx hb dX7_atMarket_217 rfl (lv_at hl 1 rfl) ?_
              refine jld (v := (x212 21)) hx hb hK hP 21 (by decide) hj rfl dX7_atMarket_218 ?_
              refine lv_if_ne (tgt := 227) hx hb dX7_atMarket_219 (by decide) (fun c_219 => ?_) (fun c_219 => ?_)
              · skip
                have hrow : rAtMarket p0 row = x212 := by
                  subst_vars
                  simp only [rAtMarket, rMkA, rMkB, rMkS, rMkW, rMkT, rMkP, rInc, rDec, if_neg c_7, if_neg c_35, if_pos c_65, if_pos c_95, if_neg c_175, if_pos c_197, if_neg c_219]
                rw [← hrow] at hP hD
                rw [← hQQ]
                exact W.vret hx hb hr (fun t9 ht9 hW9 => ⟨⟨(), rfl, trivial, by rw [ht9]; exact hP, hD⟩, hS.F ht9⟩) hS.2.2 dX7_atMarket_227
              · skip
                refine lv_aload_n hx hb dX7_atMarket_222 rfl (lv_at hl 0 rfl) ?_
                refine lv_iload_n hx hb dX7_atMarket_223 rfl (lv_at hl 1 rfl) ?_
                refine rwVv (As := [.int (nI j)]) (rest := []) ⟨hx, hb, hml, hown, hts⟩ (c_X7_keeps l D cI cL cZ cO H.size a r now full jobs lev pr R lp ch me ru wo co j x212 hj) (cwV 1 hts gX7_atMarket_X7_keeps rfl rfl rfl (by decide +kernel) ⟨Nat.le_of_ble_eq_true rfl, Nat.le_of_ble_eq_true rfl⟩) hO hP hD hS hA (va_recv hK hP (ci := 6) (q0 := 0) rfl rfl) rfl hl.1 rfl (Nat.le_of_ble_eq_true rfl) dX7_atMarket_224 ⟨Nat.le_of_ble_eq_true rfl, Nat.le_of_ble_eq_true rfl⟩ (fun u_224 H locs e_224 hP hD hS => ?_)
                have hP : va_P D vwCl (wM cI cL cZ a r now full jobs lev pr (va_up R j (rKeep x212)) lp ch me ru wo co) H := hP
                have hD : va_D A (wM cI cL cZ a r now full jobs lev pr (va_up R j (rKeep x212)) lp ch me ru wo co) := hD
                have hrow : rAtMarket p0 row = rKeep x212 := by
                  subst_vars
                  simp only [rAtMarket, rMkA, rMkB, rMkS, rMkW, rMkT, rMkP, rInc, rDec, if_neg c_7, if_neg c_35, if_pos c_65, if_pos c_95, if_neg c_175, if_pos c_197, if_pos c_219]
                rw [← hrow] at hP hD
                rw [← hQQ]
                exact W.vret hx hb hr (fun t9 ht9 hW9 => ⟨⟨(), rfl, trivial, by rw [ht9]; exact hP, hD⟩, hS.F ht9⟩) hS.2.2 dX7_atMarket_227
            · skip
              have hrow : rAtMarket p0 row = x162 := by
                subst_vars
                simp only [rAtMarket, rMkA, rMkB, rMkS, rMkW, rMkT, rMkP, rInc, rDec, if_neg c_7, if_neg c_35, if_pos c_65, if_pos c_95, if_neg c_175, if_neg c_197]
              rw [← hrow] at hP hD
              rw [← hQQ]
              exact W.vret hx hb hr (fun t9 ht9 hW9 => ⟨⟨(), rfl, trivial, by rw [ht9]; exact hP, hD⟩, hS.F ht9⟩) hS.2.2 dX7_atMarket_200
        · skip
          refine lv_aload_n hx hb dX7_atMarket_98 rfl (lv_at hl 0 rfl) ?_
          refine va_get (D := D) (cl := vwCl) (ci := 6) (v := .ref (r 21)) (C := RX7) (T := TX7) (N := 35) hx hb hts (fun _ h => List.mem_cons_of_mem _ (List.mem_append_right _ h)) hown hK hP 0 rfl rfl 25 (by decide) (hts (.fieldLink RX7 80 "CheapHoursModel" "toSave" "[I") (by decide +kernel)) (fun _ h9 => h9) rfl dX7_atMarket_99 ?_
          refine lv_iload_n hx hb dX7_atMarket_102 rfl (lv_at hl 1 rfl) ?_
          refine lv_dup2_11 hx hb dX7_atMarket_103 rfl rfl ?_
          refine jld (v := (x58 21)) hx hb hK hP 21 (by decide) hj rfl dX7_atMarket_104 ?_
          refine lv_iconst (v := 1) hx hb dX7_atMarket_105 (by decide) ?_
          refine lv_isub hx hb dX7_atMarket_106 ?_
          refine jst hx hb hK hP hD hS 21 (by decide) hj dX7_atMarket_107 (fun H locs hP hD hS => ?_)
          obtain ⟨x107, ex107⟩ : ∃ z : Nat → Int32, z = va_up x58 21 ((x58 21) - 1) := ⟨_, rfl⟩
          rw [← ex107] at hP hD
          refine lv_aload_n hx hb dX7_atMarket_108 rfl (lv_at hl 0 rfl) ?_
          refine va_get (D := D) (cl := vwCl) (ci := 6) (v := .ref (r 13)) (C := RX7) (T := TX7) (N := 35) hx hb hts (fun _ h => List.mem_cons_of_mem _ (List.mem_append_right _ h)) hown hK hP 0 rfl rfl 17 (by decide) (hts (.fieldLink RX7 56 "CheapHoursModel" "saving" "[I") (by decide +kernel)) (fun _ h9 => h9) rfl dX7_atMarket_109 ?_
          refine lv_iload_n hx hb dX7_atMarket_112 rfl (lv_at hl 1 rfl) ?_
          refine lv_dup2_11 hx hb dX7_atMarket_113 rfl rfl ?_
          refine jld (v := (x107 13)) hx hb hK hP 13 (by decide) hj rfl dX7_atMarket_114 ?_
          refine lv_iconst (v := 1) hx hb dX7_atMarket_115 (by decide) ?_
          refine lv_iadd hx hb dX7_atMarket_116 ?_
          refine jst hx hb hK hP hD hS 13 (by decide) hj dX7_atMarket_117 (fun H locs hP hD hS => ?_)
          obtain ⟨x117, ex117⟩ : ∃ z : Nat → Int32, z = va_up x107 13 ((x107 13) + 1) := ⟨_, rfl⟩
          rw [← ex117] at hP hD
          refine lv_aload_n hx hb dX7_atMarket_118 rfl (lv_at hl 0 rfl) ?_
          refine va_get (D := D) (cl := vwCl) (ci := 6) (v := .ref (r 21)) (C := RX7) (T := TX7) (N := 35) hx hb hts (fun _ h => List.mem_cons_of_mem _ (List.mem_append_right _ h)) hown hK hP 0 rfl rfl 25 (by decide) (hts (.fieldLink RX7 80 "CheapHoursModel" "toSave" "[I") (by decide +kernel)) (fun _ h9 => h9) rfl dX7_atMarket_119 ?_
          refine lv_iload_n hx hb dX7_atMarket_122 rfl (lv_at hl 1 rfl) ?_
          refine jld (v := (x117 21)) hx hb hK hP 21 (by decide) hj rfl dX7_atMarket_123 ?_
          refine lv_if_ne (tgt := 132) hx hb dX7_atMarket_124 (by decide) (fun c_124 => ?_) (fun c_124 => ?_)
          · skip
            have hrow : rAtMarket p0 row = x117 := by
              subst_vars
              simp only [rAtMarket, rMkA, rMkB, rMkS, rMkW, rMkT, rMkP, rInc, rDec, if_neg c_7, if_neg c_35, if_pos c_65, if_neg c_95, if_neg c_124]
            rw [← hrow] at hP hD
            rw [← hQQ]
            exact W.vret hx hb hr (fun t9 ht9 hW9 => ⟨⟨(), rfl, trivial, by rw [ht9]; exact hP, hD⟩, hS.F ht9⟩) hS.2.2 dX7_atMarket_132
          · skip
            refine lv_aload_n hx hb dX7_atMarket_127 rfl (lv_at hl 0 rfl) ?_
            refine lv_iload_n hx hb dX7_atMarket_128 rfl (lv_at hl 1 rfl) ?_
            refine rwVv (As := [.int (nI j)]) (rest := []) ⟨hx, hb, hml, hown, hts⟩ (c_X7_keeps l D cI cL cZ cO H.size a r now full jobs lev pr R lp ch me ru wo co j x117 hj) (cwV 1 hts gX7_atMarket_X7_keeps rfl rfl rfl (by decide +kernel) ⟨Nat.le_of_ble_eq_true rfl, Nat.le_of_ble_eq_true rfl⟩) hO hP hD hS hA (va_recv hK hP (ci := 6) (q0 := 0) rfl rfl) rfl hl.1 rfl (Nat.le_of_ble_eq_true rfl) dX7_atMarket_129 ⟨Nat.le_of_ble_eq_true rfl, Nat.le_of_ble_eq_true rfl⟩ (fun u_129 H locs e_129 hP hD hS => ?_)
            have hP : va_P D vwCl (wM cI cL cZ a r now full jobs lev pr (va_up R j (rKeep x117)) lp ch me ru wo co) H := hP
            have hD : va_D A (wM cI cL cZ a r now full jobs lev pr (va_up R j (rKeep x117)) lp ch me ru wo co) := hD
            have hrow : rAtMarket p0 row = rKeep x117 := by
              subst_vars
              simp only [rAtMarket, rMkA, rMkB, rMkS, rMkW, rMkT, rMkP, rInc, rDec, if_neg c_7, if_neg c_35, if_pos c_65, if_neg c_95, if_pos c_124]
            rw [← hrow] at hP hD
            rw [← hQQ]
            exact W.vret hx hb hr (fun t9 ht9 hW9 => ⟨⟨(), rfl, trivial, by rw [ht9]; exact hP, hD⟩, hS.F ht9⟩) hS.2.2 dX7_atMarket_132
      · skip
        refine lv_aload_n hx hb dX7_atMarket_68 rfl (lv_at hl 0 rfl) ?_
        refine va_get (D := D) (cl := vwCl) (ci := 6) (v := .ref (r 20)) (C := RX7) (T := TX7) (N := 35) hx hb hts (fun _ h => List.mem_cons_of_mem _ (List.mem_append_right _ h)) hown hK hP 0 rfl rfl 24 (by decide) (hts (.fieldLink RX7 77 "CheapHoursModel" "toBring" "[I") (by decide +kernel)) (fun _ h9 => h9) rfl dX7_atMarket_69 ?_
        refine lv_iload_n hx hb dX7_atMarket_72 rfl (lv_at hl 1 rfl) ?_
        refine lv_dup2_11 hx hb dX7_atMarket_73 rfl rfl ?_
        refine jld (v := (x58 20)) hx hb hK hP 20 (by decide) hj rfl dX7_atMarket_74 ?_
        refine lv_iconst (v := 1) hx hb dX7_atMarket_75 (by decide) ?_
        refine lv_isub hx hb dX7_atMarket_76 ?_
        refine jst hx hb hK hP hD hS 20 (by decide) hj dX7_atMarket_77 (fun H locs hP hD hS => ?_)
        obtain ⟨x77, ex77⟩ : ∃ z : Nat → Int32, z = va_up x58 20 ((x58 20) - 1) := ⟨_, rfl⟩
        rw [← ex77] at hP hD
        refine lv_aload_n hx hb dX7_atMarket_78 rfl (lv_at hl 0 rfl) ?_
        refine va_get (D := D) (cl := vwCl) (ci := 6) (v := .ref (r 12)) (C := RX7) (T := TX7) (N := 35) hx hb hts (fun _ h => List.mem_cons_of_mem _ (List.mem_append_right _ h)) hown hK hP 0 rfl rfl 16 (by decide) (hts (.fieldLink RX7 53 "CheapHoursModel" "brought" "[I") (by decide +kernel)) (fun _ h9 => h9) rfl dX7_atMarket_79 ?_
        refine lv_iload_n hx hb dX7_atMarket_82 rfl (lv_at hl 1 rfl) ?_
        refine lv_dup2_11 hx hb dX7_atMarket_83 rfl rfl ?_
        refine jld (v := (x77 12)) hx hb hK hP 12 (by decide) hj rfl dX7_atMarket_84 ?_
        refine lv_iconst (v := 1) hx hb dX7_atMarket_85 (by decide) ?_
        refine lv_iadd hx hb dX7_atMarket_86 ?_
        refine jst hx hb hK hP hD hS 12 (by decide) hj dX7_atMarket_87 (fun H locs hP hD hS => ?_)
        obtain ⟨x87, ex87⟩ : ∃ z : Nat → Int32, z = va_up x77 12 ((x77 12) + 1) := ⟨_, rfl⟩
        rw [← ex87] at hP hD
        have hrow : rAtMarket p0 row = x87 := by
          subst_vars
          simp only [rAtMarket, rMkA, rMkB, rMkS, rMkW, rMkT, rMkP, rInc, rDec, if_neg c_7, if_neg c_35, if_neg c_65]
        rw [← hrow] at hP hD
        rw [← hQQ]
        exact W.vret hx hb hr (fun t9 ht9 hW9 => ⟨⟨(), rfl, trivial, by rw [ht9]; exact hP, hD⟩, hS.F ht9⟩) hS.2.2 dX7_atMarket_88
set_option maxHeartbeats 4000000 in
set_option maxRecDepth 100000 in
theorem c_X7_hour (l : Launch) (D : va_G) (cI cL cZ cO : ClassId) (sz : Nat) (a : Nat) (r : Nat → Nat) (full jobs lev : Int32) (pr : Nat → Int32) (R : Nat → Nat → Int32) (lp ch : Nat → Int32) (me : Nat → Int64) (ru wo co : Nat → Int32) (j : Nat) (row : Nat → Int32) (nw mk : Nat) (hj : j < 12) (hnw : nw < 200) (hmk : mk < 3) (hrm : row 2 = nI mk) : Met l yX7_hour wsX7_hour ({ frames := 2, cells := 0, slots := 0, locals := 43 } : Room) (va_Pc [.ref a, .int (nI j)] (Rw D cI cL cZ cO (wM cI cL cZ a r (nI nw) full jobs lev pr (va_up R j row) lp ch me ru wo co) sz)) (va_Qv (fun (u : Unit) => True) (fun (u : Unit) => Wo D (va_A (wM cI cL cZ a r (nI nw) full jobs lev pr (va_up R j row) lp ch me ru wo co) sz) (wM cI cL cZ a r (nI nw) full jobs lev pr (va_up R j (rHour full (pr (200 * mk + nw)) nw row)) lp ch me ru wo co)) (va_A (wM cI cL cZ a r (nI nw) full jobs lev pr (va_up R j row) lp ch me ru wo co) sz)) 0 0 (va_A (wM cI cL cZ a r (nI nw) full jobs lev pr (va_up R j row) lp ch me ru wo co) sz) := by
  refine Met.ofW (cc := cX7_hour) (maxL := 3) (ret := none) (by decide) rfl ?_
  intro p e s m args below meth c s₁ B hml hv
  obtain ⟨rfl, hsz, hP, hO, hD0⟩ := hv
  have hx := B.exec
  have hb := B.bytes
  have hr := B.returns
  have hts := atoms_spec (ws := wsX7_hour) B.pre
  have hown : s.vm.findClass RX7 = some m.cls := findClass_of_methodNamed B.named
  have hlocks := B.notSynchronized
  have hK := hO.1
  subst hsz
  have hD := hD0.self (sz := s.heap.size)
  generalize hAe : va_A (wM cI cL cZ a r (nI nw) full jobs lev pr (va_up R j row) lp ch me ru wo co) s.heap.size = A at hD ⊢
  have hA : ∀ q : Nat, s.heap.size ≤ q → A q := fun q h => by rw [← hAe]; exact Or.inr h
  have hS : va_S A s.heap s.heap [] := va_S.rf
  have hl := lv_entry ([.ref a, .int (nI j)]) (n := 3) (Nat.le_of_ble_eq_true rfl)
  rw [lg_entry_eq]
  generalize (lg_sl ([.ref a, .int (nI j)]) ++ List.replicate (3 - (lg_sl ([.ref a, .int (nI j)])).length) Slot.unset).toArray = ls at hl ⊢
  have hl : lv_has ls 3 [(0, .ref a), (1, .int (nI j))] := hl
  generalize hQQ : MQ below _ _ s _ _ _ = QQ
  have J38 : ∀ (g : Int32) (H : Heap) (locs : List Loc) (ls : Array Slot), (g = rGuard nw row) → va_P D vwCl (wM cI cL cZ a r (nI nw) full jobs lev pr (va_up R j row) lp ch me ru wo co) H → va_D A (wM cI cL cZ a r (nI nw) full jobs lev pr (va_up R j row) lp ch me ru wo co) → va_S A s.heap H locs → lv_has ls 3 [(0, .ref a), (1, .int (nI j))] → W p l e (headSpec wsX7_hour ({ frames := 2, cells := 0, slots := 0, locals := 43 } : Room)).room s m ([.ref a, .int (nI j)] : List Value).toArray below meth c H locs 0 0 QQ (F0 m 38 ls [.int g, .int (nI j), .ref (r 23)]) := by
    intro g H locs ls hg hP hD hS hl
    subst hg
    refine jzst hx hb hK hP hD hS 23 rfl hj (rGuard_nar nw row) dX7_hour_38 (fun H locs hP hD hS => ?_)
    obtain ⟨x38, ex38⟩ : ∃ z : Nat → Int32, z = va_up row 23 (rGuard nw row) := ⟨_, rfl⟩
    rw [← ex38] at hP hD
    refine lv_aload_n hx hb dX7_hour_39 rfl (lv_at hl 0 rfl) ?_
    refine va_get (D := D) (cl := vwCl) (ci := 6) (v := .ref (r 24)) (C := RX7) (T := TX7) (N := 35) hx hb hts (fun _ h => List.mem_cons_of_mem _ (List.mem_append_right _ h)) hown hK hP 0 rfl rfl 2 (by decide) (hts (.fieldLink RX7 13 "CheapHoursModel" "prices" "[I") (List.mem_of_getElem? (i := 4) rfl)) (fun _ h9 => h9) rfl dX7_hour_40 ?_
    refine lv_sipush (v := 200) hx hb dX7_hour_43 (by decide) ?_
    refine lv_aload_n hx hb dX7_hour_46 rfl (lv_at hl 0 rfl) ?_
    refine va_get (D := D) (cl := vwCl) (ci := 6) (v := .ref (r 2)) (C := RX7) (T := TX7) (N := 35) hx hb hts (fun _ h => List.mem_cons_of_mem _ (List.mem_append_right _ h)) hown hK hP 0 rfl rfl 6 (by decide) (hts (.fieldLink RX7 23 "CheapHoursModel" "market" "[I") (List.mem_of_getElem? (i := 5) rfl)) (fun _ h9 => h9) rfl dX7_hour_47 ?_
    refine lv_iload_n hx hb dX7_hour_50 rfl (lv_at hl 1 rfl) ?_
    refine jld (v := (x38 2)) hx hb hK hP 2 (by decide) hj rfl dX7_hour_51 ?_
    refine lv_seti (v := nI mk) (by subst_vars; exact hrm) ?_
    refine n_imul (x := 200) (y := mk) hx hb dX7_hour_52 ?_
    refine lv_aload_n hx hb dX7_hour_53 rfl (lv_at hl 0 rfl) ?_
    refine va_get (D := D) (cl := vwCl) (ci := 6) (v := .int (nI nw)) (C := RX7) (T := TX7) (N := 35) hx hb hts (fun _ h => List.mem_cons_of_mem _ (List.mem_append_right _ h)) hown hK hP 0 rfl rfl 0 (by decide) (hts (.fieldLink RX7 116 "CheapHoursModel" "now" "I") (List.mem_of_getElem? (i := 3) rfl)) (fun _ h9 => h9) rfl dX7_hour_54 ?_
    refine n_iadd (x := (200 * mk)) (y := nw) hx hb dX7_hour_57 ?_
    refine n_iald (D := D) (cl := vwCl) (x := ((200 * mk) + nw)) hx hb hK hP 1 0 (f := pr) rfl rfl (by omega) (Nat.le_of_ble_eq_true rfl) dX7_hour_58 ?_
    refine lv_istore_n (lv' := [(2, .int (pr ((200 * mk) + nw))), (0, .ref a), (1, .int (nI j))]) hx hb dX7_hour_59 rfl hl (by decide) rfl (fun ls hl => ?_)
    refine lv_aload_n hx hb dX7_hour_60 rfl (lv_at hl 1 rfl) ?_
    refine va_get (D := D) (cl := vwCl) (ci := 6) (v := .ref (r 23)) (C := RX7) (T := TX7) (N := 35) hx hb hts (fun _ h => List.mem_cons_of_mem _ (List.mem_append_right _ h)) hown hK hP 0 rfl rfl 27 (by decide) (hts (.fieldLink RX7 86 "CheapHoursModel" "isGuarded" "[Z") (List.mem_of_getElem? (i := 1) rfl)) (fun _ h9 => h9) rfl dX7_hour_61 ?_
    refine lv_iload_n hx hb dX7_hour_64 rfl (lv_at hl 2 rfl) ?_
    refine jzld (v := (x38 23)) hx hb hK hP 23 (by decide) hj rfl dX7_hour_65 ?_
    refine lv_if_eq (tgt := 77) hx hb dX7_hour_66 (by decide) (fun c_66 => ?_) (fun c_66 => ?_)
    · skip
      refine lv_iload_n hx hb dX7_hour_77 rfl (lv_at hl 0 rfl) ?_
      refine lv_iconst (v := (-1)) hx hb dX7_hour_78 (by decide) ?_
      refine lv_icmp_eq (tgt := 92) hx hb dX7_hour_79 (by decide) (fun c_79 => ?_) (fun c_79 => ?_)
      · skip
        refine lv_aload_n hx hb dX7_hour_92 rfl (lv_at hl 1 rfl) ?_
        refine va_get (D := D) (cl := vwCl) (ci := 6) (v := .ref (r 17)) (C := RX7) (T := TX7) (N := 35) hx hb hts (fun _ h => List.mem_cons_of_mem _ (List.mem_append_right _ h)) hown hK hP 0 rfl rfl 21 (by decide) (hts (.fieldLink RX7 68 "CheapHoursModel" "place" "[I") (List.mem_of_getElem? (i := 7) rfl)) (fun _ h9 => h9) rfl dX7_hour_93 ?_
        refine lv_iload_n hx hb dX7_hour_96 rfl (lv_at hl 2 rfl) ?_
        refine jld (v := (x38 17)) hx hb hK hP 17 (by decide) hj rfl dX7_hour_97 ?_
        refine lv_iconst (v := 1) hx hb dX7_hour_98 (by decide) ?_
        refine lv_icmp_ne (tgt := 124) hx hb dX7_hour_99 (by decide) (fun c_99 => ?_) (fun c_99 => ?_)
        · skip
          refine lv_aload_n hx hb dX7_hour_124 rfl (lv_at hl 1 rfl) ?_
          refine va_get (D := D) (cl := vwCl) (ci := 6) (v := .ref (r 14)) (C := RX7) (T := TX7) (N := 35) hx hb hts (fun _ h => List.mem_cons_of_mem _ (List.mem_append_right _ h)) hown hK hP 0 rfl rfl 18 (by decide) (hts (.fieldLink RX7 59 "CheapHoursModel" "waited" "[I") (List.mem_of_getElem? (i := 9) rfl)) (fun _ h9 => h9) rfl dX7_hour_125 ?_
          refine lv_iload_n hx hb dX7_hour_128 rfl (lv_at hl 2 rfl) ?_
          refine lv_dup2_11 hx hb dX7_hour_129 rfl rfl ?_
          refine jld (v := (x38 14)) hx hb hK hP 14 (by decide) hj rfl dX7_hour_130 ?_
          refine lv_iconst (v := 1) hx hb dX7_hour_131 (by decide) ?_
          refine lv_iadd hx hb dX7_hour_132 ?_
          refine jst hx hb hK hP hD hS 14 (by decide) hj dX7_hour_133 (fun H locs hP hD hS => ?_)
          obtain ⟨x133, ex133⟩ : ∃ z : Nat → Int32, z = va_up x38 14 ((x38 14) + 1) := ⟨_, rfl⟩
          rw [← ex133] at hP hD
          refine lv_goto (tgt := 143) hx hb dX7_hour_134 (by decide) ?_
          refine lv_aload_n hx hb dX7_hour_143 rfl (lv_at hl 1 rfl) ?_
          refine va_get (D := D) (cl := vwCl) (ci := 6) (v := .ref (r 8)) (C := RX7) (T := TX7) (N := 35) hx hb hts (fun _ h => List.mem_cons_of_mem _ (List.mem_append_right _ h)) hown hK hP 0 rfl rfl 12 (by decide) (hts (.fieldLink RX7 41 "CheapHoursModel" "saved" "[I") (List.mem_of_getElem? (i := 10) rfl)) (fun _ h9 => h9) rfl dX7_hour_144 ?_
          refine lv_iload_n hx hb dX7_hour_147 rfl (lv_at hl 2 rfl) ?_
          refine jld (v := (x133 8)) hx hb hK hP 8 (by decide) hj rfl dX7_hour_148 ?_
          refine lv_aload_n hx hb dX7_hour_149 rfl (lv_at hl 1 rfl) ?_
          refine va_get (D := D) (cl := vwCl) (ci := 6) (v := .ref (r 0)) (C := RX7) (T := TX7) (N := 35) hx hb hts (fun _ h => List.mem_cons_of_mem _ (List.mem_append_right _ h)) hown hK hP 0 rfl rfl 4 (by decide) (hts (.fieldLink RX7 17 "CheapHoursModel" "work" "[I") (List.mem_of_getElem? (i := 11) rfl)) (fun _ h9 => h9) rfl dX7_hour_150 ?_
          refine lv_iload_n hx hb dX7_hour_153 rfl (lv_at hl 2 rfl) ?_
          refine jld (v := (x133 0)) hx hb hK hP 0 (by decide) hj rfl dX7_hour_154 ?_
          refine lv_icmp_ge (tgt := 159) hx hb dX7_hour_155 (by decide) (fun c_155 => ?_) (fun c_155 => ?_)
          · skip
            refine lv_aload_n hx hb dX7_hour_159 rfl (lv_at hl 1 rfl) ?_
            refine va_get (D := D) (cl := vwCl) (ci := 6) (v := .ref (r 18)) (C := RX7) (T := TX7) (N := 35) hx hb hts (fun _ h => List.mem_cons_of_mem _ (List.mem_append_right _ h)) hown hK hP 0 rfl rfl 22 (by decide) (hts (.fieldLink RX7 71 "CheapHoursModel" "readyAt" "[I") (List.mem_of_getElem? (i := 12) rfl)) (fun _ h9 => h9) rfl dX7_hour_160 ?_
            refine lv_iload_n hx hb dX7_hour_163 rfl (lv_at hl 2 rfl) ?_
            refine lv_aload_n hx hb dX7_hour_164 rfl (lv_at hl 1 rfl) ?_
            refine va_get (D := D) (cl := vwCl) (ci := 6) (v := .int (nI nw)) (C := RX7) (T := TX7) (N := 35) hx hb hts (fun _ h => List.mem_cons_of_mem _ (List.mem_append_right _ h)) hown hK hP 0 rfl rfl 0 (by decide) (hts (.fieldLink RX7 116 "CheapHoursModel" "now" "I") (List.mem_of_getElem? (i := 3) rfl)) (fun _ h9 => h9) rfl dX7_hour_165 ?_
            refine lv_iconst (v := 1) hx hb dX7_hour_168 (by decide) ?_
            refine n_iadd (x := nw) (y := 1) hx hb dX7_hour_169 ?_
            refine jst hx hb hK hP hD hS 18 (by decide) hj dX7_hour_170 (fun H locs hP hD hS => ?_)
            obtain ⟨x170, ex170⟩ : ∃ z : Nat → Int32, z = va_up x133 18 (nI (nw + 1)) := ⟨_, rfl⟩
            rw [← ex170] at hP hD
            refine lv_aload_n hx hb dX7_hour_171 rfl (lv_at hl 1 rfl) ?_
            refine va_get (D := D) (cl := vwCl) (ci := 6) (v := .ref (r 17)) (C := RX7) (T := TX7) (N := 35) hx hb hts (fun _ h => List.mem_cons_of_mem _ (List.mem_append_right _ h)) hown hK hP 0 rfl rfl 21 (by decide) (hts (.fieldLink RX7 68 "CheapHoursModel" "place" "[I") (List.mem_of_getElem? (i := 7) rfl)) (fun _ h9 => h9) rfl dX7_hour_172 ?_
            refine lv_iload_n hx hb dX7_hour_175 rfl (lv_at hl 2 rfl) ?_
            refine lv_iconst (v := 0) hx hb dX7_hour_176 (by decide) ?_
            refine jst hx hb hK hP hD hS 17 (by decide) hj dX7_hour_177 (fun H locs hP hD hS => ?_)
            obtain ⟨x177, ex177⟩ : ∃ z : Nat → Int32, z = va_up x170 17 0 := ⟨_, rfl⟩
            rw [← ex177] at hP hD
            have hrow : rHour full (pr (200 * mk + nw)) nw row = x177 := by
              subst_vars
              simp only [rHour, rTurn, rDone, rWait, rInc, if_pos c_66, if_pos c_79, if_neg c_99, if_pos c_155]
            rw [← hrow] at hP hD
            rw [← hQQ]
            exact W.vret hx hb hr (fun t9 ht9 hW9 => ⟨⟨(), rfl, trivial, by rw [ht9]; exact hP, hD⟩, hS.F ht9⟩) hS.2.2 dX7_hour_178
          · skip
            have hrow : rHour full (pr (200 * mk + nw)) nw row = x133 := by
              subst_vars
              simp only [rHour, rTurn, rDone, rWait, rInc, if_pos c_66, if_pos c_79, if_neg c_99, if_neg c_155]
            rw [← hrow] at hP hD
            rw [← hQQ]
            exact W.vret hx hb hr (fun t9 ht9 hW9 => ⟨⟨(), rfl, trivial, by rw [ht9]; exact hP, hD⟩, hS.F ht9⟩) hS.2.2 dX7_hour_158
        · skip
          refine lv_aload_n hx hb dX7_hour_102 rfl (lv_at hl 1 rfl) ?_
          refine va_get (D := D) (cl := vwCl) (ci := 6) (v := .ref (r 19)) (C := RX7) (T := TX7) (N := 35) hx hb hts (fun _ h => List.mem_cons_of_mem _ (List.mem_append_right _ h)) hown hK hP 0 rfl rfl 23 (by decide) (hts (.fieldLink RX7 74 "CheapHoursModel" "taken" "[I") (List.mem_of_getElem? (i := 8) rfl)) (fun _ h9 => h9) rfl dX7_hour_103 ?_
          refine lv_iload_n hx hb dX7_hour_106 rfl (lv_at hl 2 rfl) ?_
          refine lv_dup2_11 hx hb dX7_hour_107 rfl rfl ?_
          refine jld (v := (x38 19)) hx hb hK hP 19 (by decide) hj rfl dX7_hour_108 ?_
          refine lv_iconst (v := 1) hx hb dX7_hour_109 (by decide) ?_
          refine lv_iadd hx hb dX7_hour_110 ?_
          refine jst hx hb hK hP hD hS 19 (by decide) hj dX7_hour_111 (fun H locs hP hD hS => ?_)
          obtain ⟨x111, ex111⟩ : ∃ z : Nat → Int32, z = va_up x38 19 ((x38 19) + 1) := ⟨_, rfl⟩
          rw [← ex111] at hP hD
          refine lv_aload_n hx hb dX7_hour_112 rfl (lv_at hl 1 rfl) ?_
          refine lv_iload_n hx hb dX7_hour_113 rfl (lv_at hl 2 rfl) ?_
          refine rwVv (As := [.int (nI j)]) (rest := []) ⟨hx, hb, hml, hown, hts⟩ (c_X7_loses l D cI cL cZ cO H.size a r (nI nw) full jobs lev pr R lp ch me ru wo co j x111 hj) (cwV 1 hts gX7_hour_X7_loses rfl rfl rfl (by decide +kernel) ⟨Nat.le_of_ble_eq_true rfl, Nat.le_of_ble_eq_true rfl⟩) hO hP hD hS hA (va_recv hK hP (ci := 6) (q0 := 0) rfl rfl) rfl hl.1 rfl (Nat.le_of_ble_eq_true rfl) dX7_hour_114 ⟨Nat.le_of_ble_eq_true rfl, Nat.le_of_ble_eq_true rfl⟩ (fun u_114 H locs e_114 hP hD hS => ?_)
          have hP : va_P D vwCl (wM cI cL cZ a r (nI nw) full jobs lev pr (va_up R j (rLose x111)) lp ch me ru wo co) H := hP
          have hD : va_D A (wM cI cL cZ a r (nI nw) full jobs lev pr (va_up R j (rLose x111)) lp ch me ru wo co) := hD
          refine lv_aload_n hx hb dX7_hour_117 rfl (lv_at hl 1 rfl) ?_
          refine va_get (D := D) (cl := vwCl) (ci := 6) (v := .ref (r 17)) (C := RX7) (T := TX7) (N := 35) hx hb hts (fun _ h => List.mem_cons_of_mem _ (List.mem_append_right _ h)) hown hK hP 0 rfl rfl 21 (by decide) (hts (.fieldLink RX7 68 "CheapHoursModel" "place" "[I") (List.mem_of_getElem? (i := 7) rfl)) (fun _ h9 => h9) rfl dX7_hour_118 ?_
          refine lv_iload_n hx hb dX7_hour_121 rfl (lv_at hl 2 rfl) ?_
          refine lv_iconst (v := 0) hx hb dX7_hour_122 (by decide) ?_
          refine jst hx hb hK hP hD hS 17 (by decide) hj dX7_hour_123 (fun H locs hP hD hS => ?_)
          obtain ⟨x123, ex123⟩ : ∃ z : Nat → Int32, z = va_up (rLose x111) 17 0 := ⟨_, rfl⟩
          rw [← ex123] at hP hD
          refine lv_aload_n hx hb dX7_hour_124 rfl (lv_at hl 1 rfl) ?_
          refine va_get (D := D) (cl := vwCl) (ci := 6) (v := .ref (r 14)) (C := RX7) (T := TX7) (N := 35) hx hb hts (fun _ h => List.mem_cons_of_mem _ (List.mem_append_right _ h)) hown hK hP 0 rfl rfl 18 (by decide) (hts (.fieldLink RX7 59 "CheapHoursModel" "waited" "[I") (List.mem_of_getElem? (i := 9) rfl)) (fun _ h9 => h9) rfl dX7_hour_125 ?_
          refine lv_iload_n hx hb dX7_hour_128 rfl (lv_at hl 2 rfl) ?_
          refine lv_dup2_11 hx hb dX7_hour_129 rfl rfl ?_
          refine jld (v := (x123 14)) hx hb hK hP 14 (by decide) hj rfl dX7_hour_130 ?_
          refine lv_iconst (v := 1) hx hb dX7_hour_131 (by decide) ?_
          refine lv_iadd hx hb dX7_hour_132 ?_
          refine jst hx hb hK hP hD hS 14 (by decide) hj dX7_hour_133 (fun H locs hP hD hS => ?_)
          obtain ⟨x133, ex133⟩ : ∃ z : Nat → Int32, z = va_up x123 14 ((x123 14) + 1) := ⟨_, rfl⟩
          rw [← ex133] at hP hD
          refine lv_goto (tgt := 143) hx hb dX7_hour_134 (by decide) ?_
          refine lv_aload_n hx hb dX7_hour_143 rfl (lv_at hl 1 rfl) ?_
          refine va_get (D := D) (cl := vwCl) (ci := 6) (v := .ref (r 8)) (C := RX7) (T := TX7) (N := 35) hx hb hts (fun _ h => List.mem_cons_of_mem _ (List.mem_append_right _ h)) hown hK hP 0 rfl rfl 12 (by decide) (hts (.fieldLink RX7 41 "CheapHoursModel" "saved" "[I") (List.mem_of_getElem? (i := 10) rfl)) (fun _ h9 => h9) rfl dX7_hour_144 ?_
          refine lv_iload_n hx hb dX7_hour_147 rfl (lv_at hl 2 rfl) ?_
          refine jld (v := (x133 8)) hx hb hK hP 8 (by decide) hj rfl dX7_hour_148 ?_
          refine lv_aload_n hx hb dX7_hour_149 rfl (lv_at hl 1 rfl) ?_
          refine va_get (D := D) (cl := vwCl) (ci := 6) (v := .ref (r 0)) (C := RX7) (T := TX7) (N := 35) hx hb hts (fun _ h => List.mem_cons_of_mem _ (List.mem_append_right _ h)) hown hK hP 0 rfl rfl 4 (by decide) (hts (.fieldLink RX7 17 "CheapHoursModel" "work" "[I") (List.mem_of_getElem? (i := 11) rfl)) (fun _ h9 => h9) rfl dX7_hour_150 ?_
          refine lv_iload_n hx hb dX7_hour_153 rfl (lv_at hl 2 rfl) ?_
          refine jld (v := (x133 0)) hx hb hK hP 0 (by decide) hj rfl dX7_hour_154 ?_
          refine lv_icmp_ge (tgt := 159) hx hb dX7_hour_155 (by decide) (fun c_155 => ?_) (fun c_155 => ?_)
          · skip
            refine lv_aload_n hx hb dX7_hour_159 rfl (lv_at hl 1 rfl) ?_
            refine va_get (D := D) (cl := vwCl) (ci := 6) (v := .ref (r 18)) (C := RX7) (T := TX7) (N := 35) hx hb hts (fun _ h => List.mem_cons_of_mem _ (List.mem_append_right _ h)) hown hK hP 0 rfl rfl 22 (by decide) (hts (.fieldLink RX7 71 "CheapHoursModel" "readyAt" "[I") (List.mem_of_getElem? (i := 12) rfl)) (fun _ h9 => h9) rfl dX7_hour_160 ?_
            refine lv_iload_n hx hb dX7_hour_163 rfl (lv_at hl 2 rfl) ?_
            refine lv_aload_n hx hb dX7_hour_164 rfl (lv_at hl 1 rfl) ?_
            refine va_get (D := D) (cl := vwCl) (ci := 6) (v := .int (nI nw)) (C := RX7) (T := TX7) (N := 35) hx hb hts (fun _ h => List.mem_cons_of_mem _ (List.mem_append_right _ h)) hown hK hP 0 rfl rfl 0 (by decide) (hts (.fieldLink RX7 116 "CheapHoursModel" "now" "I") (List.mem_of_getElem? (i := 3) rfl)) (fun _ h9 => h9) rfl dX7_hour_165 ?_
            refine lv_iconst (v := 1) hx hb dX7_hour_168 (by decide) ?_
            refine n_iadd (x := nw) (y := 1) hx hb dX7_hour_169 ?_
            refine jst hx hb hK hP hD hS 18 (by decide) hj dX7_hour_170 (fun H locs hP hD hS => ?_)
            obtain ⟨x170, ex170⟩ : ∃ z : Nat → Int32, z = va_up x133 18 (nI (nw + 1)) := ⟨_, rfl⟩
            rw [← ex170] at hP hD
            refine lv_aload_n hx hb dX7_hour_171 rfl (lv_at hl 1 rfl) ?_
            refine va_get (D := D) (cl := vwCl) (ci := 6) (v := .ref (r 17)) (C := RX7) (T := TX7) (N := 35) hx hb hts (fun _ h => List.mem_cons_of_mem _ (List.mem_append_right _ h)) hown hK hP 0 rfl rfl 21 (by decide) (hts (.fieldLink RX7 68 "CheapHoursModel" "place" "[I") (List.mem_of_getElem? (i := 7) rfl)) (fun _ h9 => h9) rfl dX7_hour_172 ?_
            refine lv_iload_n hx hb dX7_hour_175 rfl (lv_at hl 2 rfl) ?_
            refine lv_iconst (v := 0) hx hb dX7_hour_176 (by decide) ?_
            refine jst hx hb hK hP hD hS 17 (by decide) hj dX7_hour_177 (fun H locs hP hD hS => ?_)
            obtain ⟨x177, ex177⟩ : ∃ z : Nat → Int32, z = va_up x170 17 0 := ⟨_, rfl⟩
            rw [← ex177] at hP hD
            have hrow : rHour full (pr (200 * mk + nw)) nw row = x177 := by
              subst_vars
              simp only [rHour, rTurn, rDone, rWait, rInc, if_pos c_66, if_pos c_79, if_pos c_99, if_pos c_155]
            rw [← hrow] at hP hD
            rw [← hQQ]
            exact W.vret hx hb hr (fun t9 ht9 hW9 => ⟨⟨(), rfl, trivial, by rw [ht9]; exact hP, hD⟩, hS.F ht9⟩) hS.2.2 dX7_hour_178
          · skip
            have hrow : rHour full (pr (200 * mk + nw)) nw row = x133 := by
              subst_vars
              simp only [rHour, rTurn, rDone, rWait, rInc, if_pos c_66, if_pos c_79, if_pos c_99, if_neg c_155]
            rw [← hrow] at hP hD
            rw [← hQQ]
            exact W.vret hx hb hr (fun t9 ht9 hW9 => ⟨⟨(), rfl, trivial, by rw [ht9]; exact hP, hD⟩, hS.F ht9⟩) hS.2.2 dX7_hour_158
      · skip
        refine lv_iload_n hx hb dX7_hour_82 rfl (lv_at hl 0 rfl) ?_
        refine lv_aload_n hx hb dX7_hour_83 rfl (lv_at hl 1 rfl) ?_
        refine va_get (D := D) (cl := vwCl) (ci := 6) (v := .ref (r 3)) (C := RX7) (T := TX7) (N := 35) hx hb hts (fun _ h => List.mem_cons_of_mem _ (List.mem_append_right _ h)) hown hK hP 0 rfl rfl 7 (by decide) (hts (.fieldLink RX7 26 "CheapHoursModel" "bid" "[I") (List.mem_of_getElem? (i := 6) rfl)) (fun _ h9 => h9) rfl dX7_hour_84 ?_
        refine lv_iload_n hx hb dX7_hour_87 rfl (lv_at hl 2 rfl) ?_
        refine jld (v := (x38 3)) hx hb hK hP 3 (by decide) hj rfl dX7_hour_88 ?_
        refine lv_icmp_le (tgt := 137) hx hb dX7_hour_89 (by decide) (fun c_89 => ?_) (fun c_89 => ?_)
        · skip
          refine lv_aload_n hx hb dX7_hour_137 rfl (lv_at hl 1 rfl) ?_
          refine lv_iload_n hx hb dX7_hour_138 rfl (lv_at hl 2 rfl) ?_
          refine lv_iload_n hx hb dX7_hour_139 rfl (lv_at hl 0 rfl) ?_
          refine rwVv (As := [.int (nI j), .int (pr ((200 * mk) + nw))]) (rest := []) ⟨hx, hb, hml, hown, hts⟩ (c_X7_atMarket l D cI cL cZ cO H.size a r (nI nw) full jobs lev pr R lp ch me ru wo co j x38 (pr ((200 * mk) + nw)) hj) (cwV 2 hts gX7_hour_X7_atMarket rfl rfl rfl (by decide +kernel) ⟨Nat.le_of_ble_eq_true rfl, Nat.le_of_ble_eq_true rfl⟩) hO hP hD hS hA (va_recv hK hP (ci := 6) (q0 := 0) rfl rfl) rfl hl.1 rfl (Nat.le_of_ble_eq_true rfl) dX7_hour_140 ⟨Nat.le_of_ble_eq_true rfl, Nat.le_of_ble_eq_true rfl⟩ (fun u_140 H locs e_140 hP hD hS => ?_)
          have hP : va_P D vwCl (wM cI cL cZ a r (nI nw) full jobs lev pr (va_up R j (rAtMarket (pr ((200 * mk) + nw)) x38)) lp ch me ru wo co) H := hP
          have hD : va_D A (wM cI cL cZ a r (nI nw) full jobs lev pr (va_up R j (rAtMarket (pr ((200 * mk) + nw)) x38)) lp ch me ru wo co) := hD
          refine lv_aload_n hx hb dX7_hour_143 rfl (lv_at hl 1 rfl) ?_
          refine va_get (D := D) (cl := vwCl) (ci := 6) (v := .ref (r 8)) (C := RX7) (T := TX7) (N := 35) hx hb hts (fun _ h => List.mem_cons_of_mem _ (List.mem_append_right _ h)) hown hK hP 0 rfl rfl 12 (by decide) (hts (.fieldLink RX7 41 "CheapHoursModel" "saved" "[I") (List.mem_of_getElem? (i := 10) rfl)) (fun _ h9 => h9) rfl dX7_hour_144 ?_
          refine lv_iload_n hx hb dX7_hour_147 rfl (lv_at hl 2 rfl) ?_
          refine jld (v := ((rAtMarket (pr ((200 * mk) + nw)) x38) 8)) hx hb hK hP 8 (by decide) hj rfl dX7_hour_148 ?_
          refine lv_aload_n hx hb dX7_hour_149 rfl (lv_at hl 1 rfl) ?_
          refine va_get (D := D) (cl := vwCl) (ci := 6) (v := .ref (r 0)) (C := RX7) (T := TX7) (N := 35) hx hb hts (fun _ h => List.mem_cons_of_mem _ (List.mem_append_right _ h)) hown hK hP 0 rfl rfl 4 (by decide) (hts (.fieldLink RX7 17 "CheapHoursModel" "work" "[I") (List.mem_of_getElem? (i := 11) rfl)) (fun _ h9 => h9) rfl dX7_hour_150 ?_
          refine lv_iload_n hx hb dX7_hour_153 rfl (lv_at hl 2 rfl) ?_
          refine jld (v := ((rAtMarket (pr ((200 * mk) + nw)) x38) 0)) hx hb hK hP 0 (by decide) hj rfl dX7_hour_154 ?_
          refine lv_icmp_ge (tgt := 159) hx hb dX7_hour_155 (by decide) (fun c_155 => ?_) (fun c_155 => ?_)
          · skip
            refine lv_aload_n hx hb dX7_hour_159 rfl (lv_at hl 1 rfl) ?_
            refine va_get (D := D) (cl := vwCl) (ci := 6) (v := .ref (r 18)) (C := RX7) (T := TX7) (N := 35) hx hb hts (fun _ h => List.mem_cons_of_mem _ (List.mem_append_right _ h)) hown hK hP 0 rfl rfl 22 (by decide) (hts (.fieldLink RX7 71 "CheapHoursModel" "readyAt" "[I") (List.mem_of_getElem? (i := 12) rfl)) (fun _ h9 => h9) rfl dX7_hour_160 ?_
            refine lv_iload_n hx hb dX7_hour_163 rfl (lv_at hl 2 rfl) ?_
            refine lv_aload_n hx hb dX7_hour_164 rfl (lv_at hl 1 rfl) ?_
            refine va_get (D := D) (cl := vwCl) (ci := 6) (v := .int (nI nw)) (C := RX7) (T := TX7) (N := 35) hx hb hts (fun _ h => List.mem_cons_of_mem _ (List.mem_append_right _ h)) hown hK hP 0 rfl rfl 0 (by decide) (hts (.fieldLink RX7 116 "CheapHoursModel" "now" "I") (List.mem_of_getElem? (i := 3) rfl)) (fun _ h9 => h9) rfl dX7_hour_165 ?_
            refine lv_iconst (v := 1) hx hb dX7_hour_168 (by decide) ?_
            refine n_iadd (x := nw) (y := 1) hx hb dX7_hour_169 ?_
            refine jst hx hb hK hP hD hS 18 (by decide) hj dX7_hour_170 (fun H locs hP hD hS => ?_)
            obtain ⟨x170, ex170⟩ : ∃ z : Nat → Int32, z = va_up (rAtMarket (pr ((200 * mk) + nw)) x38) 18 (nI (nw + 1)) := ⟨_, rfl⟩
            rw [← ex170] at hP hD
            refine lv_aload_n hx hb dX7_hour_171 rfl (lv_at hl 1 rfl) ?_
            refine va_get (D := D) (cl := vwCl) (ci := 6) (v := .ref (r 17)) (C := RX7) (T := TX7) (N := 35) hx hb hts (fun _ h => List.mem_cons_of_mem _ (List.mem_append_right _ h)) hown hK hP 0 rfl rfl 21 (by decide) (hts (.fieldLink RX7 68 "CheapHoursModel" "place" "[I") (List.mem_of_getElem? (i := 7) rfl)) (fun _ h9 => h9) rfl dX7_hour_172 ?_
            refine lv_iload_n hx hb dX7_hour_175 rfl (lv_at hl 2 rfl) ?_
            refine lv_iconst (v := 0) hx hb dX7_hour_176 (by decide) ?_
            refine jst hx hb hK hP hD hS 17 (by decide) hj dX7_hour_177 (fun H locs hP hD hS => ?_)
            obtain ⟨x177, ex177⟩ : ∃ z : Nat → Int32, z = va_up x170 17 0 := ⟨_, rfl⟩
            rw [← ex177] at hP hD
            have hrow : rHour full (pr (200 * mk + nw)) nw row = x177 := by
              subst_vars
              simp only [rHour, rTurn, rDone, rWait, rInc, if_pos c_66, if_neg c_79, if_pos c_89, if_pos c_155]
            rw [← hrow] at hP hD
            rw [← hQQ]
            exact W.vret hx hb hr (fun t9 ht9 hW9 => ⟨⟨(), rfl, trivial, by rw [ht9]; exact hP, hD⟩, hS.F ht9⟩) hS.2.2 dX7_hour_178
          · skip
            have hrow : rHour full (pr (200 * mk + nw)) nw row = rAtMarket (pr ((200 * mk) + nw)) x38 := by
              subst_vars
              simp only [rHour, rTurn, rDone, rWait, rInc, if_pos c_66, if_neg c_79, if_pos c_89, if_neg c_155]
            rw [← hrow] at hP hD
            rw [← hQQ]
            exact W.vret hx hb hr (fun t9 ht9 hW9 => ⟨⟨(), rfl, trivial, by rw [ht9]; exact hP, hD⟩, hS.F ht9⟩) hS.2.2 dX7_hour_158
        · skip
          refine lv_aload_n hx hb dX7_hour_92 rfl (lv_at hl 1 rfl) ?_
          refine va_get (D := D) (cl := vwCl) (ci := 6) (v := .ref (r 17)) (C := RX7) (T := TX7) (N := 35) hx hb hts (fun _ h => List.mem_cons_of_mem _ (List.mem_append_right _ h)) hown hK hP 0 rfl rfl 21 (by decide) (hts (.fieldLink RX7 68 "CheapHoursModel" "place" "[I") (List.mem_of_getElem? (i := 7) rfl)) (fun _ h9 => h9) rfl dX7_hour_93 ?_
          refine lv_iload_n hx hb dX7_hour_96 rfl (lv_at hl 2 rfl) ?_
          refine jld (v := (x38 17)) hx hb hK hP 17 (by decide) hj rfl dX7_hour_97 ?_
          refine lv_iconst (v := 1) hx hb dX7_hour_98 (by decide) ?_
          refine lv_icmp_ne (tgt := 124) hx hb dX7_hour_99 (by decide) (fun c_99 => ?_) (fun c_99 => ?_)
          · skip
            refine lv_aload_n hx hb dX7_hour_124 rfl (lv_at hl 1 rfl) ?_
            refine va_get (D := D) (cl := vwCl) (ci := 6) (v := .ref (r 14)) (C := RX7) (T := TX7) (N := 35) hx hb hts (fun _ h => List.mem_cons_of_mem _ (List.mem_append_right _ h)) hown hK hP 0 rfl rfl 18 (by decide) (hts (.fieldLink RX7 59 "CheapHoursModel" "waited" "[I") (List.mem_of_getElem? (i := 9) rfl)) (fun _ h9 => h9) rfl dX7_hour_125 ?_
            refine lv_iload_n hx hb dX7_hour_128 rfl (lv_at hl 2 rfl) ?_
            refine lv_dup2_11 hx hb dX7_hour_129 rfl rfl ?_
            refine jld (v := (x38 14)) hx hb hK hP 14 (by decide) hj rfl dX7_hour_130 ?_
            refine lv_iconst (v := 1) hx hb dX7_hour_131 (by decide) ?_
            refine lv_iadd hx hb dX7_hour_132 ?_
            refine jst hx hb hK hP hD hS 14 (by decide) hj dX7_hour_133 (fun H locs hP hD hS => ?_)
            obtain ⟨x133, ex133⟩ : ∃ z : Nat → Int32, z = va_up x38 14 ((x38 14) + 1) := ⟨_, rfl⟩
            rw [← ex133] at hP hD
            refine lv_goto (tgt := 143) hx hb dX7_hour_134 (by decide) ?_
            refine lv_aload_n hx hb dX7_hour_143 rfl (lv_at hl 1 rfl) ?_
            refine va_get (D := D) (cl := vwCl) (ci := 6) (v := .ref (r 8)) (C := RX7) (T := TX7) (N := 35) hx hb hts (fun _ h => List.mem_cons_of_mem _ (List.mem_append_right _ h)) hown hK hP 0 rfl rfl 12 (by decide) (hts (.fieldLink RX7 41 "CheapHoursModel" "saved" "[I") (List.mem_of_getElem? (i := 10) rfl)) (fun _ h9 => h9) rfl dX7_hour_144 ?_
            refine lv_iload_n hx hb dX7_hour_147 rfl (lv_at hl 2 rfl) ?_
            refine jld (v := (x133 8)) hx hb hK hP 8 (by decide) hj rfl dX7_hour_148 ?_
            refine lv_aload_n hx hb dX7_hour_149 rfl (lv_at hl 1 rfl) ?_
            refine va_get (D := D) (cl := vwCl) (ci := 6) (v := .ref (r 0)) (C := RX7) (T := TX7) (N := 35) hx hb hts (fun _ h => List.mem_cons_of_mem _ (List.mem_append_right _ h)) hown hK hP 0 rfl rfl 4 (by decide) (hts (.fieldLink RX7 17 "CheapHoursModel" "work" "[I") (List.mem_of_getElem? (i := 11) rfl)) (fun _ h9 => h9) rfl dX7_hour_150 ?_
            refine lv_iload_n hx hb dX7_hour_153 rfl (lv_at hl 2 rfl) ?_
            refine jld (v := (x133 0)) hx hb hK hP 0 (by decide) hj rfl dX7_hour_154 ?_
            refine lv_icmp_ge (tgt := 159) hx hb dX7_hour_155 (by decide) (fun c_155 => ?_) (fun c_155 => ?_)
            · skip
              refine lv_aload_n hx hb dX7_hour_159 rfl (lv_at hl 1 rfl) ?_
              refine va_get (D := D) (cl := vwCl) (ci := 6) (v := .ref (r 18)) (C := RX7) (T := TX7) (N := 35) hx hb hts (fun _ h => List.mem_cons_of_mem _ (List.mem_append_right _ h)) hown hK hP 0 rfl rfl 22 (by decide) (hts (.fieldLink RX7 71 "CheapHoursModel" "readyAt" "[I") (List.mem_of_getElem? (i := 12) rfl)) (fun _ h9 => h9) rfl dX7_hour_160 ?_
              refine lv_iload_n hx hb dX7_hour_163 rfl (lv_at hl 2 rfl) ?_
              refine lv_aload_n hx hb dX7_hour_164 rfl (lv_at hl 1 rfl) ?_
              refine va_get (D := D) (cl := vwCl) (ci := 6) (v := .int (nI nw)) (C := RX7) (T := TX7) (N := 35) hx hb hts (fun _ h => List.mem_cons_of_mem _ (List.mem_append_right _ h)) hown hK hP 0 rfl rfl 0 (by decide) (hts (.fieldLink RX7 116 "CheapHoursModel" "now" "I") (List.mem_of_getElem? (i := 3) rfl)) (fun _ h9 => h9) rfl dX7_hour_165 ?_
              refine lv_iconst (v := 1) hx hb dX7_hour_168 (by decide) ?_
              refine n_iadd (x := nw) (y := 1) hx hb dX7_hour_169 ?_
              refine jst hx hb hK hP hD hS 18 (by decide) hj dX7_hour_170 (fun H locs hP hD hS => ?_)
              obtain ⟨x170, ex170⟩ : ∃ z : Nat → Int32, z = va_up x133 18 (nI (nw + 1)) := ⟨_, rfl⟩
              rw [← ex170] at hP hD
              refine lv_aload_n hx hb dX7_hour_171 rfl (lv_at hl 1 rfl) ?_
              refine va_get (D := D) (cl := vwCl) (ci := 6) (v := .ref (r 17)) (C := RX7) (T := TX7) (N := 35) hx hb hts (fun _ h => List.mem_cons_of_mem _ (List.mem_append_right _ h)) hown hK hP 0 rfl rfl 21 (by decide) (hts (.fieldLink RX7 68 "CheapHoursModel" "place" "[I") (List.mem_of_getElem? (i := 7) rfl)) (fun _ h9 => h9) rfl dX7_hour_172 ?_
              refine lv_iload_n hx hb dX7_hour_175 rfl (lv_at hl 2 rfl) ?_
              refine lv_iconst (v := 0) hx hb dX7_hour_176 (by decide) ?_
              refine jst hx hb hK hP hD hS 17 (by decide) hj dX7_hour_177 (fun H locs hP hD hS => ?_)
              obtain ⟨x177, ex177⟩ : ∃ z : Nat → Int32, z = va_up x170 17 0 := ⟨_, rfl⟩
              rw [← ex177] at hP hD
              have hrow : rHour full (pr (200 * mk + nw)) nw row = x177 := by
                subst_vars
                simp only [rHour, rTurn, rDone, rWait, rInc, if_pos c_66, if_neg c_79, if_neg c_89, if_neg c_99, if_pos c_155]
              rw [← hrow] at hP hD
              rw [← hQQ]
              exact W.vret hx hb hr (fun t9 ht9 hW9 => ⟨⟨(), rfl, trivial, by rw [ht9]; exact hP, hD⟩, hS.F ht9⟩) hS.2.2 dX7_hour_178
            · skip
              have hrow : rHour full (pr (200 * mk + nw)) nw row = x133 := by
                subst_vars
                simp only [rHour, rTurn, rDone, rWait, rInc, if_pos c_66, if_neg c_79, if_neg c_89, if_neg c_99, if_neg c_155]
              rw [← hrow] at hP hD
              rw [← hQQ]
              exact W.vret hx hb hr (fun t9 ht9 hW9 => ⟨⟨(), rfl, trivial, by rw [ht9]; exact hP, hD⟩, hS.F ht9⟩) hS.2.2 dX7_hour_158
          · skip
            refine lv_aload_n hx hb dX7_hour_102 rfl (lv_at hl 1 rfl) ?_
            refine va_get (D := D) (cl := vwCl) (ci := 6) (v := .ref (r 19)) (C := RX7) (T := TX7) (N := 35) hx hb hts (fun _ h => List.mem_cons_of_mem _ (List.mem_append_right _ h)) hown hK hP 0 rfl rfl 23 (by decide) (hts (.fieldLink RX7 74 "CheapHoursModel" "taken" "[I") (List.mem_of_getElem? (i := 8) rfl)) (fun _ h9 => h9) rfl dX7_hour_103 ?_
            refine lv_iload_n hx hb dX7_hour_106 rfl (lv_at hl 2 rfl) ?_
            refine lv_dup2_11 hx hb dX7_hour_107 rfl rfl ?_
            refine jld (v := (x38 19)) hx hb hK hP 19 (by decide) hj rfl dX7_hour_108 ?_
            refine lv_iconst (v := 1) hx hb dX7_hour_109 (by decide) ?_
            refine lv_iadd hx hb dX7_hour_110 ?_
            refine jst hx hb hK hP hD hS 19 (by decide) hj dX7_hour_111 (fun H locs hP hD hS => ?_)
            obtain ⟨x111, ex111⟩ : ∃ z : Nat → Int32, z = va_up x38 19 ((x38 19) + 1) := ⟨_, rfl⟩
            rw [← ex111] at hP hD
            refine lv_aload_n hx hb dX7_hour_112 rfl (lv_at hl 1 rfl) ?_
            refine lv_iload_n hx hb dX7_hour_113 rfl (lv_at hl 2 rfl) ?_
            refine rwVv (As := [.int (nI j)]) (rest := []) ⟨hx, hb, hml, hown, hts⟩ (c_X7_loses l D cI cL cZ cO H.size a r (nI nw) full jobs lev pr R lp ch me ru wo co j x111 hj) (cwV 1 hts gX7_hour_X7_loses rfl rfl rfl (by decide +kernel) ⟨Nat.le_of_ble_eq_true rfl, Nat.le_of_ble_eq_true rfl⟩) hO hP hD hS hA (va_recv hK hP (ci := 6) (q0 := 0) rfl rfl) rfl hl.1 rfl (Nat.le_of_ble_eq_true rfl) dX7_hour_114 ⟨Nat.le_of_ble_eq_true rfl, Nat.le_of_ble_eq_true rfl⟩ (fun u_114 H locs e_114 hP hD hS => ?_)
            have hP : va_P D vwCl (wM cI cL cZ a r (nI nw) full jobs lev pr (va_up R j (rLose x111)) lp ch me ru wo co) H := hP
            have hD : va_D A (wM cI cL cZ a r (nI nw) full jobs lev pr (va_up R j (rLose x111)) lp ch me ru wo co) := hD
            refine lv_aload_n hx hb dX7_hour_117 rfl (lv_at hl 1 rfl) ?_
            refine va_get (D := D) (cl := vwCl) (ci := 6) (v := .ref (r 17)) (C := RX7) (T := TX7) (N := 35) hx hb hts (fun _ h => List.mem_cons_of_mem _ (List.mem_append_right _ h)) hown hK hP 0 rfl rfl 21 (by decide) (hts (.fieldLink RX7 68 "CheapHoursModel" "place" "[I") (List.mem_of_getElem? (i := 7) rfl)) (fun _ h9 => h9) rfl dX7_hour_118 ?_
            refine lv_iload_n hx hb dX7_hour_121 rfl (lv_at hl 2 rfl) ?_
            refine lv_iconst (v := 0) hx hb dX7_hour_122 (by decide) ?_
            refine jst hx hb hK hP hD hS 17 (by decide) hj dX7_hour_123 (fun H locs hP hD hS => ?_)
            obtain ⟨x123, ex123⟩ : ∃ z : Nat → Int32, z = va_up (rLose x111) 17 0 := ⟨_, rfl⟩
            rw [← ex123] at hP hD
            refine lv_aload_n hx hb dX7_hour_124 rfl (lv_at hl 1 rfl) ?_
            refine va_get (D := D) (cl := vwCl) (ci := 6) (v := .ref (r 14)) (C := RX7) (T := TX7) (N := 35) hx hb hts (fun _ h => List.mem_cons_of_mem _ (List.mem_append_right _ h)) hown hK hP 0 rfl rfl 18 (by decide) (hts (.fieldLink RX7 59 "CheapHoursModel" "waited" "[I") (List.mem_of_getElem? (i := 9) rfl)) (fun _ h9 => h9) rfl dX7_hour_125 ?_
            refine lv_iload_n hx hb dX7_hour_128 rfl (lv_at hl 2 rfl) ?_
            refine lv_dup2_11 hx hb dX7_hour_129 rfl rfl ?_
            refine jld (v := (x123 14)) hx hb hK hP 14 (by decide) hj rfl dX7_hour_130 ?_
            refine lv_iconst (v := 1) hx hb dX7_hour_131 (by decide) ?_
            refine lv_iadd hx hb dX7_hour_132 ?_
            refine jst hx hb hK hP hD hS 14 (by decide) hj dX7_hour_133 (fun H locs hP hD hS => ?_)
            obtain ⟨x133, ex133⟩ : ∃ z : Nat → Int32, z = va_up x123 14 ((x123 14) + 1) := ⟨_, rfl⟩
            rw [← ex133] at hP hD
            refine lv_goto (tgt := 143) hx hb dX7_hour_134 (by decide) ?_
            refine lv_aload_n hx hb dX7_hour_143 rfl (lv_at hl 1 rfl) ?_
            refine va_get (D := D) (cl := vwCl) (ci := 6) (v := .ref (r 8)) (C := RX7) (T := TX7) (N := 35) hx hb hts (fun _ h => List.mem_cons_of_mem _ (List.mem_append_right _ h)) hown hK hP 0 rfl rfl 12 (by decide) (hts (.fieldLink RX7 41 "CheapHoursModel" "saved" "[I") (List.mem_of_getElem? (i := 10) rfl)) (fun _ h9 => h9) rfl dX7_hour_144 ?_
            refine lv_iload_n hx hb dX7_hour_147 rfl (lv_at hl 2 rfl) ?_
            refine jld (v := (x133 8)) hx hb hK hP 8 (by decide) hj rfl dX7_hour_148 ?_
            refine lv_aload_n hx hb dX7_hour_149 rfl (lv_at hl 1 rfl) ?_
            refine va_get (D := D) (cl := vwCl) (ci := 6) (v := .ref (r 0)) (C := RX7) (T := TX7) (N := 35) hx hb hts (fun _ h => List.mem_cons_of_mem _ (List.mem_append_right _ h)) hown hK hP 0 rfl rfl 4 (by decide) (hts (.fieldLink RX7 17 "CheapHoursModel" "work" "[I") (List.mem_of_getElem? (i := 11) rfl)) (fun _ h9 => h9) rfl dX7_hour_150 ?_
            refine lv_iload_n hx hb dX7_hour_153 rfl (lv_at hl 2 rfl) ?_
            refine jld (v := (x133 0)) hx hb hK hP 0 (by decide) hj rfl dX7_hour_154 ?_
            refine lv_icmp_ge (tgt := 159) hx hb dX7_hour_155 (by decide) (fun c_155 => ?_) (fun c_155 => ?_)
            · skip
              refine lv_aload_n hx hb dX7_hour_159 rfl (lv_at hl 1 rfl) ?_
              refine va_get (D := D) (cl := vwCl) (ci := 6) (v := .ref (r 18)) (C := RX7) (T := TX7) (N := 35) hx hb hts (fun _ h => List.mem_cons_of_mem _ (List.mem_append_right _ h)) hown hK hP 0 rfl rfl 22 (by decide) (hts (.fieldLink RX7 71 "CheapHoursModel" "readyAt" "[I") (List.mem_of_getElem? (i := 12) rfl)) (fun _ h9 => h9) rfl dX7_hour_160 ?_
              refine lv_iload_n hx hb dX7_hour_163 rfl (lv_at hl 2 rfl) ?_
              refine lv_aload_n hx hb dX7_hour_164 rfl (lv_at hl 1 rfl) ?_
              refine va_get (D := D) (cl := vwCl) (ci := 6) (v := .int (nI nw)) (C := RX7) (T := TX7) (N := 35) hx hb hts (fun _ h => List.mem_cons_of_mem _ (List.mem_append_right _ h)) hown hK hP 0 rfl rfl 0 (by decide) (hts (.fieldLink RX7 116 "CheapHoursModel" "now" "I") (List.mem_of_getElem? (i := 3) rfl)) (fun _ h9 => h9) rfl dX7_hour_165 ?_
              refine lv_iconst (v := 1) hx hb dX7_hour_168 (by decide) ?_
              refine n_iadd (x := nw) (y := 1) hx hb dX7_hour_169 ?_
              refine jst hx hb hK hP hD hS 18 (by decide) hj dX7_hour_170 (fun H locs hP hD hS => ?_)
              obtain ⟨x170, ex170⟩ : ∃ z : Nat → Int32, z = va_up x133 18 (nI (nw + 1)) := ⟨_, rfl⟩
              rw [← ex170] at hP hD
              refine lv_aload_n hx hb dX7_hour_171 rfl (lv_at hl 1 rfl) ?_
              refine va_get (D := D) (cl := vwCl) (ci := 6) (v := .ref (r 17)) (C := RX7) (T := TX7) (N := 35) hx hb hts (fun _ h => List.mem_cons_of_mem _ (List.mem_append_right _ h)) hown hK hP 0 rfl rfl 21 (by decide) (hts (.fieldLink RX7 68 "CheapHoursModel" "place" "[I") (List.mem_of_getElem? (i := 7) rfl)) (fun _ h9 => h9) rfl dX7_hour_172 ?_
              refine lv_iload_n hx hb dX7_hour_175 rfl (lv_at hl 2 rfl) ?_
              refine lv_iconst (v := 0) hx hb dX7_hour_176 (by decide) ?_
              refine jst hx hb hK hP hD hS 17 (by decide) hj dX7_hour_177 (fun H locs hP hD hS => ?_)
              obtain ⟨x177, ex177⟩ : ∃ z : Nat → Int32, z = va_up x170 17 0 := ⟨_, rfl⟩
              rw [← ex177] at hP hD
              have hrow : rHour full (pr (200 * mk + nw)) nw row = x177 := by
                subst_vars
                simp only [rHour, rTurn, rDone, rWait, rInc, if_pos c_66, if_neg c_79, if_neg c_89, if_pos c_99, if_pos c_155]
              rw [← hrow] at hP hD
              rw [← hQQ]
              exact W.vret hx hb hr (fun t9 ht9 hW9 => ⟨⟨(), rfl, trivial, by rw [ht9]; exact hP, hD⟩, hS.F ht9⟩) hS.2.2 dX7_hour_178
            · skip
              have hrow : rHour full (pr (200 * mk + nw)) nw row = x133 := by
                subst_vars
                simp only [rHour, rTurn, rDone, rWait, rInc, if_pos c_66, if_neg c_79, if_neg c_89, if_pos c_99, if_neg c_155]
              rw [← hrow] at hP hD
              rw [← hQQ]
              exact W.vret hx hb hr (fun t9 ht9 hW9 => ⟨⟨(), rfl, trivial, by rw [ht9]; exact hP, hD⟩, hS.F ht9⟩) hS.2.2 dX7_hour_158
    · skip
      refine lv_aload_n hx hb dX7_hour_69 rfl (lv_at hl 1 rfl) ?_
      refine lv_iload_n hx hb dX7_hour_70 rfl (lv_at hl 2 rfl) ?_
      refine rwVv (As := [.int (nI j)]) (rest := []) ⟨hx, hb, hml, hown, hts⟩ (c_X7_atFull l D cI cL cZ cO H.size a r (nI nw) full jobs lev pr R lp ch me ru wo co j x38 hj) (cwV 1 hts gX7_hour_X7_atFull rfl rfl rfl (by decide +kernel) ⟨Nat.le_of_ble_eq_true rfl, Nat.le_of_ble_eq_true rfl⟩) hO hP hD hS hA (va_recv hK hP (ci := 6) (q0 := 0) rfl rfl) rfl hl.1 rfl (Nat.le_of_ble_eq_true rfl) dX7_hour_71 ⟨Nat.le_of_ble_eq_true rfl, Nat.le_of_ble_eq_true rfl⟩ (fun u_71 H locs e_71 hP hD hS => ?_)
      have hP : va_P D vwCl (wM cI cL cZ a r (nI nw) full jobs lev pr (va_up R j (rAtFull full x38)) lp ch me ru wo co) H := hP
      have hD : va_D A (wM cI cL cZ a r (nI nw) full jobs lev pr (va_up R j (rAtFull full x38)) lp ch me ru wo co) := hD
      refine lv_goto (tgt := 143) hx hb dX7_hour_74 (by decide) ?_
      refine lv_aload_n hx hb dX7_hour_143 rfl (lv_at hl 1 rfl) ?_
      refine va_get (D := D) (cl := vwCl) (ci := 6) (v := .ref (r 8)) (C := RX7) (T := TX7) (N := 35) hx hb hts (fun _ h => List.mem_cons_of_mem _ (List.mem_append_right _ h)) hown hK hP 0 rfl rfl 12 (by decide) (hts (.fieldLink RX7 41 "CheapHoursModel" "saved" "[I") (List.mem_of_getElem? (i := 10) rfl)) (fun _ h9 => h9) rfl dX7_hour_144 ?_
      refine lv_iload_n hx hb dX7_hour_147 rfl (lv_at hl 2 rfl) ?_
      refine jld (v := ((rAtFull full x38) 8)) hx hb hK hP 8 (by decide) hj rfl dX7_hour_148 ?_
      refine lv_aload_n hx hb dX7_hour_149 rfl (lv_at hl 1 rfl) ?_
      refine va_get (D := D) (cl := vwCl) (ci := 6) (v := .ref (r 0)) (C := RX7) (T := TX7) (N := 35) hx hb hts (fun _ h => List.mem_cons_of_mem _ (List.mem_append_right _ h)) hown hK hP 0 rfl rfl 4 (by decide) (hts (.fieldLink RX7 17 "CheapHoursModel" "work" "[I") (List.mem_of_getElem? (i := 11) rfl)) (fun _ h9 => h9) rfl dX7_hour_150 ?_
      refine lv_iload_n hx hb dX7_hour_153 rfl (lv_at hl 2 rfl) ?_
      refine jld (v := ((rAtFull full x38) 0)) hx hb hK hP 0 (by decide) hj rfl dX7_hour_154 ?_
      refine lv_icmp_ge (tgt := 159) hx hb dX7_hour_155 (by decide) (fun c_155 => ?_) (fun c_155 => ?_)
      · skip
        refine lv_aload_n hx hb dX7_hour_159 rfl (lv_at hl 1 rfl) ?_
        refine va_get (D := D) (cl := vwCl) (ci := 6) (v := .ref (r 18)) (C := RX7) (T := TX7) (N := 35) hx hb hts (fun _ h => List.mem_cons_of_mem _ (List.mem_append_right _ h)) hown hK hP 0 rfl rfl 22 (by decide) (hts (.fieldLink RX7 71 "CheapHoursModel" "readyAt" "[I") (List.mem_of_getElem? (i := 12) rfl)) (fun _ h9 => h9) rfl dX7_hour_160 ?_
        refine lv_iload_n hx hb dX7_hour_163 rfl (lv_at hl 2 rfl) ?_
        refine lv_aload_n hx hb dX7_hour_164 rfl (lv_at hl 1 rfl) ?_
        refine va_get (D := D) (cl := vwCl) (ci := 6) (v := .int (nI nw)) (C := RX7) (T := TX7) (N := 35) hx hb hts (fun _ h => List.mem_cons_of_mem _ (List.mem_append_right _ h)) hown hK hP 0 rfl rfl 0 (by decide) (hts (.fieldLink RX7 116 "CheapHoursModel" "now" "I") (List.mem_of_getElem? (i := 3) rfl)) (fun _ h9 => h9) rfl dX7_hour_165 ?_
        refine lv_iconst (v := 1) hx hb dX7_hour_168 (by decide) ?_
        refine n_iadd (x := nw) (y := 1) hx hb dX7_hour_169 ?_
        refine jst hx hb hK hP hD hS 18 (by decide) hj dX7_hour_170 (fun H locs hP hD hS => ?_)
        obtain ⟨x170, ex170⟩ : ∃ z : Nat → Int32, z = va_up (rAtFull full x38) 18 (nI (nw + 1)) := ⟨_, rfl⟩
        rw [← ex170] at hP hD
        refine lv_aload_n hx hb dX7_hour_171 rfl (lv_at hl 1 rfl) ?_
        refine va_get (D := D) (cl := vwCl) (ci := 6) (v := .ref (r 17)) (C := RX7) (T := TX7) (N := 35) hx hb hts (fun _ h => List.mem_cons_of_mem _ (List.mem_append_right _ h)) hown hK hP 0 rfl rfl 21 (by decide) (hts (.fieldLink RX7 68 "CheapHoursModel" "place" "[I") (List.mem_of_getElem? (i := 7) rfl)) (fun _ h9 => h9) rfl dX7_hour_172 ?_
        refine lv_iload_n hx hb dX7_hour_175 rfl (lv_at hl 2 rfl) ?_
        refine lv_iconst (v := 0) hx hb dX7_hour_176 (by decide) ?_
        refine jst hx hb hK hP hD hS 17 (by decide) hj dX7_hour_177 (fun H locs hP hD hS => ?_)
        obtain ⟨x177, ex177⟩ : ∃ z : Nat → Int32, z = va_up x170 17 0 := ⟨_, rfl⟩
        rw [← ex177] at hP hD
        have hrow : rHour full (pr (200 * mk + nw)) nw row = x177 := by
          subst_vars
          simp only [rHour, rTurn, rDone, rWait, rInc, if_neg c_66, if_pos c_155]
        rw [← hrow] at hP hD
        rw [← hQQ]
        exact W.vret hx hb hr (fun t9 ht9 hW9 => ⟨⟨(), rfl, trivial, by rw [ht9]; exact hP, hD⟩, hS.F ht9⟩) hS.2.2 dX7_hour_178
      · skip
        have hrow : rHour full (pr (200 * mk + nw)) nw row = rAtFull full x38 := by
          subst_vars
          simp only [rHour, rTurn, rDone, rWait, rInc, if_neg c_66, if_neg c_155]
        rw [← hrow] at hP hD
        rw [← hQQ]
        exact W.vret hx hb hr (fun t9 ht9 hW9 => ⟨⟨(), rfl, trivial, by rw [ht9]; exact hP, hD⟩, hS.F ht9⟩) hS.2.2 dX7_hour_158
  refine lv_aload_n hx hb dX7_hour_0 rfl (lv_at hl 0 rfl) ?_
  refine va_get (D := D) (cl := vwCl) (ci := 6) (v := .ref (r 23)) (C := RX7) (T := TX7) (N := 35) hx hb hts (fun _ h => List.mem_cons_of_mem _ (List.mem_append_right _ h)) hown hK hP 0 rfl rfl 27 (by decide) (hts (.fieldLink RX7 86 "CheapHoursModel" "isGuarded" "[Z") (List.mem_of_getElem? (i := 1) rfl)) (fun _ h9 => h9) rfl dX7_hour_1 ?_
  refine lv_iload_n hx hb dX7_hour_4 rfl (lv_at hl 1 rfl) ?_
  refine lv_aload_n hx hb dX7_hour_5 rfl (lv_at hl 0 rfl) ?_
  refine va_get (D := D) (cl := vwCl) (ci := 6) (v := .ref (r 23)) (C := RX7) (T := TX7) (N := 35) hx hb hts (fun _ h => List.mem_cons_of_mem _ (List.mem_append_right _ h)) hown hK hP 0 rfl rfl 27 (by decide) (hts (.fieldLink RX7 86 "CheapHoursModel" "isGuarded" "[Z") (List.mem_of_getElem? (i := 1) rfl)) (fun _ h9 => h9) rfl dX7_hour_6 ?_
  refine lv_iload_n hx hb dX7_hour_9 rfl (lv_at hl 1 rfl) ?_
  refine jzld (v := (row 23)) hx hb hK hP 23 (by decide) hj rfl dX7_hour_10 ?_
  refine lv_if_ne (tgt := 33) hx hb dX7_hour_11 (by decide) (fun c_11 => ?_) (fun c_11 => ?_)
  · skip
    refine lv_iconst (v := 1) hx hb dX7_hour_33 (by decide) ?_
    refine lv_goto (tgt := 38) hx hb dX7_hour_34 (by decide) ?_
    exact J38 1 _ _ _ (by simp only [rGuard, if_neg c_11]) hP hD hS (lv_sub hl [0, 1] rfl)
  · skip
    refine lv_aload_n hx hb dX7_hour_14 rfl (lv_at hl 0 rfl) ?_
    refine va_get (D := D) (cl := vwCl) (ci := 6) (v := .ref (r 1)) (C := RX7) (T := TX7) (N := 35) hx hb hts (fun _ h => List.mem_cons_of_mem _ (List.mem_append_right _ h)) hown hK hP 0 rfl rfl 5 (by decide) (hts (.fieldLink RX7 20 "CheapHoursModel" "due" "[I") (List.mem_of_getElem? (i := 2) rfl)) (fun _ h9 => h9) rfl dX7_hour_15 ?_
    refine lv_iload_n hx hb dX7_hour_18 rfl (lv_at hl 1 rfl) ?_
    refine jld (v := (row 1)) hx hb hK hP 1 (by decide) hj rfl dX7_hour_19 ?_
    refine lv_aload_n hx hb dX7_hour_20 rfl (lv_at hl 0 rfl) ?_
    refine va_get (D := D) (cl := vwCl) (ci := 6) (v := .int (nI nw)) (C := RX7) (T := TX7) (N := 35) hx hb hts (fun _ h => List.mem_cons_of_mem _ (List.mem_append_right _ h)) hown hK hP 0 rfl rfl 0 (by decide) (hts (.fieldLink RX7 116 "CheapHoursModel" "now" "I") (List.mem_of_getElem? (i := 3) rfl)) (fun _ h9 => h9) rfl dX7_hour_21 ?_
    refine lv_isub hx hb dX7_hour_24 ?_
    refine lv_aload_n hx hb dX7_hour_25 rfl (lv_at hl 0 rfl) ?_
    refine lv_iload_n hx hb dX7_hour_26 rfl (lv_at hl 1 rfl) ?_
    refine roVi (As := [.int (nI j)]) (rest := [.int ((row 1) - (nI nw)), .int (nI j), .ref (r 23)]) ⟨hx, hb, hml, hown, hts⟩ (c_X7_need l D cI cL cZ cO a r (nI nw) full jobs lev pr R lp ch me ru wo co j row hj) (cwV 1 hts gX7_hour_X7_need rfl rfl rfl (by decide +kernel) ⟨Nat.le_of_ble_eq_true rfl, Nat.le_of_ble_eq_true rfl⟩) hO hP (va_recv hK hP (ci := 6) (q0 := 0) rfl rfl) rfl hl.1 rfl (Nat.le_of_ble_eq_true rfl) dX7_hour_27 ⟨Nat.le_of_ble_eq_true rfl, Nat.le_of_ble_eq_true rfl⟩ (fun r_27 e_27 => ?_)
    obtain rfl : r_27 = rNeed row := e_27
    refine lv_icmp_gt (tgt := 37) hx hb dX7_hour_30 (by decide) (fun c_30 => ?_) (fun c_30 => ?_)
    · skip
      refine lv_iconst (v := 0) hx hb dX7_hour_37 (by decide) ?_
      exact J38 0 _ _ _ (by simp only [rGuard, if_pos c_11, if_pos c_30]) hP hD hS (lv_sub hl [0, 1] rfl)
    · skip
      refine lv_iconst (v := 1) hx hb dX7_hour_33 (by decide) ?_
      refine lv_goto (tgt := 38) hx hb dX7_hour_34 (by decide) ?_
      exact J38 1 _ _ _ (by simp only [rGuard, if_pos c_11, if_neg c_30]) hP hD hS (lv_sub hl [0, 1] rfl)
set_option maxHeartbeats 4000000 in
set_option maxRecDepth 100000 in
theorem c_X7_isJob (l : Launch) (D : va_G) (cI cL cZ cO : ClassId) (a : Nat) (r : Nat → Nat) (now full lev : Int32) (pr : Nat → Int32) (R : Nat → Nat → Int32) (lp ch : Nat → Int32) (me : Nat → Int64) (ru wo co : Nat → Int32) (n : Nat) (x : Int32) : Met l yX7_isJob wsX7_isJob ({ frames := 1, cells := 0, slots := 0, locals := 22 } : Room) (va_Pc [.ref a, .int x] (Ro D cI cL cZ cO (wM cI cL cZ a r now full (nI n) lev pr R lp ch me ru wo co))) (vp_Si (fun r => r = wi x 0 (nI n - 1))) 0 0 (fun _ => False) := by
  refine Met.ofW (cc := cX7_isJob) (maxL := 2) (ret := (some .boolean)) (by decide) rfl ?_
  intro p e s m args below meth c s₁ B hml hv
  obtain ⟨rfl, hP, hO⟩ := hv
  have hx := B.exec
  have hb := B.bytes
  have hr := B.returns
  have hts := atoms_spec (ws := wsX7_isJob) B.pre
  have hown : s.vm.findClass RX7 = some m.cls := findClass_of_methodNamed B.named
  have hlocks := B.notSynchronized
  have hK := hO.1
  have hl := lv_entry ([.ref a, .int x]) (n := 2) (Nat.le_of_ble_eq_true rfl)
  rw [lg_entry_eq]
  generalize (lg_sl ([.ref a, .int x]) ++ List.replicate (2 - (lg_sl ([.ref a, .int x])).length) Slot.unset).toArray = ls at hl ⊢
  have hl : lv_has ls 2 [(0, .ref a), (1, .int x)] := hl
  generalize hQQ : MQ below _ _ s _ _ _ = QQ
  refine lv_iload_n hx hb dX7_isJob_0 rfl (lv_at hl 1 rfl) ?_
  refine lv_iconst (v := 0) hx hb dX7_isJob_1 (by decide) ?_
  refine lv_aload_n hx hb dX7_isJob_2 rfl (lv_at hl 0 rfl) ?_
  refine va_get (D := D) (cl := vwCl) (ci := 6) (v := .int (nI n)) (C := RX7) (T := TX7) (N := 35) hx hb hts (fun _ h => List.mem_cons_of_mem _ (List.mem_append_right _ h)) hown hK hP 0 rfl rfl 3 (by decide) (hts (.fieldLink RX7 109 "CheapHoursModel" "jobs" "I") (List.mem_of_getElem? (i := 1) rfl)) (fun _ h9 => h9) rfl dX7_isJob_3 ?_
  refine lv_iconst (v := 1) hx hb dX7_isJob_6 (by decide) ?_
  refine lv_isub hx hb dX7_isJob_7 ?_
  refine roSi (As := [.int x, .int 0, .int ((nI n) - 1)]) (rest := []) ⟨hx, hb, hml, hown, hts⟩ (c_X7_in l D cI cL cZ cO x 0 ((nI n) - 1) ) (va_cwS 3 hts gX7_isJob_X7_in rfl rfl rfl (by decide +kernel) ⟨Nat.le_of_ble_eq_true rfl, Nat.le_of_ble_eq_true rfl⟩) hO (fun k q h => by simp at h) rfl hl.1 rfl (Nat.le_of_ble_eq_true rfl) dX7_isJob_8 ⟨Nat.le_of_ble_eq_true rfl, Nat.le_of_ble_eq_true rfl⟩ (fun r_8 e_8 => ?_)
  obtain rfl : r_8 = wi x 0 ((nI n) - 1) := e_8
  rw [← hQQ]
  exact W.zret (v := (wi x 0 ((nI n) - 1))) hx hb hr (by first | exact wi_nar _ _ _ | (split <;> rfl)) (fun t9 ht9 hW9 => ⟨_, rfl, rfl, ht9⟩) (fun q h => by cases h) dX7_isJob_11
set_option maxHeartbeats 4000000 in
set_option maxRecDepth 100000 in
theorem c_X7_told (l : Launch) (D : va_G) (cI cL cZ cO : ClassId) (a : Nat) (r : Nat → Nat) (now full lev : Int32) (pr : Nat → Int32) (R : Nat → Nat → Int32) (lp ch : Nat → Int32) (me : Nat → Int64) (ru wo co : Nat → Int32) (n : Nat) (x y : Int32) (hn : n ≤ 12) : Met l yX7_told wsX7_told ({ frames := 2, cells := 0, slots := 0, locals := 43 } : Room) (va_Pc [.ref a, .int x, .int y] (Ro D cI cL cZ cO (wM cI cL cZ a r now full (nI n) lev pr R lp ch me ru wo co))) (vp_Si (fun r => r = toldV n R x y)) 0 0 (fun _ => False) := by
  refine Met.ofW (cc := cX7_told) (maxL := 3) (ret := (some .int)) (by decide) rfl ?_
  intro p e s m args below meth c s₁ B hml hv
  obtain ⟨rfl, hP, hO⟩ := hv
  have hx := B.exec
  have hb := B.bytes
  have hr := B.returns
  have hts := atoms_spec (ws := wsX7_told) B.pre
  have hown : s.vm.findClass RX7 = some m.cls := findClass_of_methodNamed B.named
  have hlocks := B.notSynchronized
  have hK := hO.1
  have hl := lv_entry ([.ref a, .int x, .int y]) (n := 3) (Nat.le_of_ble_eq_true rfl)
  rw [lg_entry_eq]
  generalize (lg_sl ([.ref a, .int x, .int y]) ++ List.replicate (3 - (lg_sl ([.ref a, .int x, .int y])).length) Slot.unset).toArray = ls at hl ⊢
  have hl : lv_has ls 3 [(0, .ref a), (1, .int x), (2, .int y)] := hl
  generalize hQQ : MQ below _ _ s _ _ _ = QQ
  refine lv_aload_n hx hb dX7_told_0 rfl (lv_at hl 0 rfl) ?_
  refine lv_iload_n hx hb dX7_told_1 rfl (lv_at hl 1 rfl) ?_
  refine roVi (As := [.int x]) (rest := []) ⟨hx, hb, hml, hown, hts⟩ (c_X7_isJob l D cI cL cZ cO a r now full lev pr R lp ch me ru wo co n x ) (cwV 1 hts gX7_told_X7_isJob rfl rfl rfl (by decide +kernel) ⟨Nat.le_of_ble_eq_true rfl, Nat.le_of_ble_eq_true rfl⟩) hO hP (va_recv hK hP (ci := 6) (q0 := 0) rfl rfl) rfl hl.1 rfl (Nat.le_of_ble_eq_true rfl) dX7_told_2 ⟨Nat.le_of_ble_eq_true rfl, Nat.le_of_ble_eq_true rfl⟩ (fun r_2 e_2 => ?_)
  obtain rfl : r_2 = wi x 0 (nI n - 1) := e_2
  refine lv_if_ne (tgt := 10) hx hb dX7_told_5 (by decide) (fun c_5 => ?_) (fun c_5 => ?_)
  · skip
    obtain ⟨j, hj9, rfl⟩ := isJob_nat hn c_5
    have hj : j < 12 := by omega
    rw [← va_up_id R j] at hP
    refine lv_iload_n hx hb dX7_told_10 rfl (lv_at hl 2 rfl) ?_
    by_cases sw_11_0 : y = 0
    · skip
      refine lv_tableIn (tgt := 76) hx hb dX7_told_11 (by rw [sw_11_0]; decide) (by rw [sw_11_0]; decide) (by rw [sw_11_0]; rfl) (by decide) ?_
      refine lv_aload_n hx hb dX7_told_76 rfl (lv_at hl 0 rfl) ?_
      refine va_get (D := D) (cl := vwCl) (ci := 6) (v := .ref (r 8)) (C := RX7) (T := TX7) (N := 35) hx hb hts (fun _ h => List.mem_cons_of_mem _ (List.mem_append_right _ h)) hown hK hP 0 rfl rfl 12 (by decide) (hts (.fieldLink RX7 41 "CheapHoursModel" "saved" "[I") (List.mem_of_getElem? (i := 1) rfl)) (fun _ h9 => h9) rfl dX7_told_77 ?_
      refine lv_iload_n hx hb dX7_told_80 rfl (lv_at hl 1 rfl) ?_
      refine jld (v := ((R j) 8)) hx hb hK hP 8 (by decide) hj rfl dX7_told_81 ?_
      rw [← hQQ]
      exact W.iret (v := ((R j) 8)) hx hb hr (fun t9 ht9 hW9 => ⟨_, rfl, (by rw [toldV, if_neg c_5, nI_clamp (by omega)]; simp only [tellV, if_pos sw_11_0]), ht9⟩) (fun q h => by cases h) dX7_told_82
    by_cases sw_11_1 : y = 1
    · skip
      refine lv_tableIn (tgt := 83) hx hb dX7_told_11 (by rw [sw_11_1]; decide) (by rw [sw_11_1]; decide) (by rw [sw_11_1]; rfl) (by decide) ?_
      refine lv_aload_n hx hb dX7_told_83 rfl (lv_at hl 0 rfl) ?_
      refine va_get (D := D) (cl := vwCl) (ci := 6) (v := .ref (r 9)) (C := RX7) (T := TX7) (N := 35) hx hb hts (fun _ h => List.mem_cons_of_mem _ (List.mem_append_right _ h)) hown hK hP 0 rfl rfl 13 (by decide) (hts (.fieldLink RX7 44 "CheapHoursModel" "done" "[I") (List.mem_of_getElem? (i := 2) rfl)) (fun _ h9 => h9) rfl dX7_told_84 ?_
      refine lv_iload_n hx hb dX7_told_87 rfl (lv_at hl 1 rfl) ?_
      refine jld (v := ((R j) 9)) hx hb hK hP 9 (by decide) hj rfl dX7_told_88 ?_
      rw [← hQQ]
      exact W.iret (v := ((R j) 9)) hx hb hr (fun t9 ht9 hW9 => ⟨_, rfl, (by rw [toldV, if_neg c_5, nI_clamp (by omega)]; simp only [tellV, if_neg sw_11_0, if_pos sw_11_1]), ht9⟩) (fun q h => by cases h) dX7_told_89
    by_cases sw_11_2 : y = 2
    · skip
      refine lv_tableIn (tgt := 90) hx hb dX7_told_11 (by rw [sw_11_2]; decide) (by rw [sw_11_2]; decide) (by rw [sw_11_2]; rfl) (by decide) ?_
      refine lv_aload_n hx hb dX7_told_90 rfl (lv_at hl 0 rfl) ?_
      refine va_get (D := D) (cl := vwCl) (ci := 6) (v := .ref (r 10)) (C := RX7) (T := TX7) (N := 35) hx hb hts (fun _ h => List.mem_cons_of_mem _ (List.mem_append_right _ h)) hown hK hP 0 rfl rfl 14 (by decide) (hts (.fieldLink RX7 47 "CheapHoursModel" "lost" "[I") (List.mem_of_getElem? (i := 3) rfl)) (fun _ h9 => h9) rfl dX7_told_91 ?_
      refine lv_iload_n hx hb dX7_told_94 rfl (lv_at hl 1 rfl) ?_
      refine jld (v := ((R j) 10)) hx hb hK hP 10 (by decide) hj rfl dX7_told_95 ?_
      rw [← hQQ]
      exact W.iret (v := ((R j) 10)) hx hb hr (fun t9 ht9 hW9 => ⟨_, rfl, (by rw [toldV, if_neg c_5, nI_clamp (by omega)]; simp only [tellV, if_neg sw_11_0, if_neg sw_11_1, if_pos sw_11_2]), ht9⟩) (fun q h => by cases h) dX7_told_96
    by_cases sw_11_3 : y = 3
    · skip
      refine lv_tableIn (tgt := 97) hx hb dX7_told_11 (by rw [sw_11_3]; decide) (by rw [sw_11_3]; decide) (by rw [sw_11_3]; rfl) (by decide) ?_
      refine lv_aload_n hx hb dX7_told_97 rfl (lv_at hl 0 rfl) ?_
      refine va_get (D := D) (cl := vwCl) (ci := 6) (v := .ref (r 11)) (C := RX7) (T := TX7) (N := 35) hx hb hts (fun _ h => List.mem_cons_of_mem _ (List.mem_append_right _ h)) hown hK hP 0 rfl rfl 15 (by decide) (hts (.fieldLink RX7 50 "CheapHoursModel" "worked" "[I") (List.mem_of_getElem? (i := 4) rfl)) (fun _ h9 => h9) rfl dX7_told_98 ?_
      refine lv_iload_n hx hb dX7_told_101 rfl (lv_at hl 1 rfl) ?_
      refine jld (v := ((R j) 11)) hx hb hK hP 11 (by decide) hj rfl dX7_told_102 ?_
      rw [← hQQ]
      exact W.iret (v := ((R j) 11)) hx hb hr (fun t9 ht9 hW9 => ⟨_, rfl, (by rw [toldV, if_neg c_5, nI_clamp (by omega)]; simp only [tellV, if_neg sw_11_0, if_neg sw_11_1, if_neg sw_11_2, if_pos sw_11_3]), ht9⟩) (fun q h => by cases h) dX7_told_103
    by_cases sw_11_4 : y = 4
    · skip
      refine lv_tableIn (tgt := 104) hx hb dX7_told_11 (by rw [sw_11_4]; decide) (by rw [sw_11_4]; decide) (by rw [sw_11_4]; rfl) (by decide) ?_
      refine lv_aload_n hx hb dX7_told_104 rfl (lv_at hl 0 rfl) ?_
      refine va_get (D := D) (cl := vwCl) (ci := 6) (v := .ref (r 12)) (C := RX7) (T := TX7) (N := 35) hx hb hts (fun _ h => List.mem_cons_of_mem _ (List.mem_append_right _ h)) hown hK hP 0 rfl rfl 16 (by decide) (hts (.fieldLink RX7 53 "CheapHoursModel" "brought" "[I") (List.mem_of_getElem? (i := 5) rfl)) (fun _ h9 => h9) rfl dX7_told_105 ?_
      refine lv_iload_n hx hb dX7_told_108 rfl (lv_at hl 1 rfl) ?_
      refine jld (v := ((R j) 12)) hx hb hK hP 12 (by decide) hj rfl dX7_told_109 ?_
      rw [← hQQ]
      exact W.iret (v := ((R j) 12)) hx hb hr (fun t9 ht9 hW9 => ⟨_, rfl, (by rw [toldV, if_neg c_5, nI_clamp (by omega)]; simp only [tellV, if_neg sw_11_0, if_neg sw_11_1, if_neg sw_11_2, if_neg sw_11_3, if_pos sw_11_4]), ht9⟩) (fun q h => by cases h) dX7_told_110
    by_cases sw_11_5 : y = 5
    · skip
      refine lv_tableIn (tgt := 111) hx hb dX7_told_11 (by rw [sw_11_5]; decide) (by rw [sw_11_5]; decide) (by rw [sw_11_5]; rfl) (by decide) ?_
      refine lv_aload_n hx hb dX7_told_111 rfl (lv_at hl 0 rfl) ?_
      refine va_get (D := D) (cl := vwCl) (ci := 6) (v := .ref (r 13)) (C := RX7) (T := TX7) (N := 35) hx hb hts (fun _ h => List.mem_cons_of_mem _ (List.mem_append_right _ h)) hown hK hP 0 rfl rfl 17 (by decide) (hts (.fieldLink RX7 56 "CheapHoursModel" "saving" "[I") (List.mem_of_getElem? (i := 6) rfl)) (fun _ h9 => h9) rfl dX7_told_112 ?_
      refine lv_iload_n hx hb dX7_told_115 rfl (lv_at hl 1 rfl) ?_
      refine jld (v := ((R j) 13)) hx hb hK hP 13 (by decide) hj rfl dX7_told_116 ?_
      rw [← hQQ]
      exact W.iret (v := ((R j) 13)) hx hb hr (fun t9 ht9 hW9 => ⟨_, rfl, (by rw [toldV, if_neg c_5, nI_clamp (by omega)]; simp only [tellV, if_neg sw_11_0, if_neg sw_11_1, if_neg sw_11_2, if_neg sw_11_3, if_neg sw_11_4, if_pos sw_11_5]), ht9⟩) (fun q h => by cases h) dX7_told_117
    by_cases sw_11_6 : y = 6
    · skip
      refine lv_tableIn (tgt := 118) hx hb dX7_told_11 (by rw [sw_11_6]; decide) (by rw [sw_11_6]; decide) (by rw [sw_11_6]; rfl) (by decide) ?_
      refine lv_aload_n hx hb dX7_told_118 rfl (lv_at hl 0 rfl) ?_
      refine va_get (D := D) (cl := vwCl) (ci := 6) (v := .ref (r 14)) (C := RX7) (T := TX7) (N := 35) hx hb hts (fun _ h => List.mem_cons_of_mem _ (List.mem_append_right _ h)) hown hK hP 0 rfl rfl 18 (by decide) (hts (.fieldLink RX7 59 "CheapHoursModel" "waited" "[I") (List.mem_of_getElem? (i := 7) rfl)) (fun _ h9 => h9) rfl dX7_told_119 ?_
      refine lv_iload_n hx hb dX7_told_122 rfl (lv_at hl 1 rfl) ?_
      refine jld (v := ((R j) 14)) hx hb hK hP 14 (by decide) hj rfl dX7_told_123 ?_
      rw [← hQQ]
      exact W.iret (v := ((R j) 14)) hx hb hr (fun t9 ht9 hW9 => ⟨_, rfl, (by rw [toldV, if_neg c_5, nI_clamp (by omega)]; simp only [tellV, if_neg sw_11_0, if_neg sw_11_1, if_neg sw_11_2, if_neg sw_11_3, if_neg sw_11_4, if_neg sw_11_5, if_pos sw_11_6]), ht9⟩) (fun q h => by cases h) dX7_told_124
    by_cases sw_11_7 : y = 7
    · skip
      refine lv_tableIn (tgt := 125) hx hb dX7_told_11 (by rw [sw_11_7]; decide) (by rw [sw_11_7]; decide) (by rw [sw_11_7]; rfl) (by decide) ?_
      refine lv_aload_n hx hb dX7_told_125 rfl (lv_at hl 0 rfl) ?_
      refine va_get (D := D) (cl := vwCl) (ci := 6) (v := .ref (r 15)) (C := RX7) (T := TX7) (N := 35) hx hb hts (fun _ h => List.mem_cons_of_mem _ (List.mem_append_right _ h)) hown hK hP 0 rfl rfl 19 (by decide) (hts (.fieldLink RX7 62 "CheapHoursModel" "paid" "[I") (List.mem_of_getElem? (i := 8) rfl)) (fun _ h9 => h9) rfl dX7_told_126 ?_
      refine lv_iload_n hx hb dX7_told_129 rfl (lv_at hl 1 rfl) ?_
      refine jld (v := ((R j) 15)) hx hb hK hP 15 (by decide) hj rfl dX7_told_130 ?_
      rw [← hQQ]
      exact W.iret (v := ((R j) 15)) hx hb hr (fun t9 ht9 hW9 => ⟨_, rfl, (by rw [toldV, if_neg c_5, nI_clamp (by omega)]; simp only [tellV, if_neg sw_11_0, if_neg sw_11_1, if_neg sw_11_2, if_neg sw_11_3, if_neg sw_11_4, if_neg sw_11_5, if_neg sw_11_6, if_pos sw_11_7]), ht9⟩) (fun q h => by cases h) dX7_told_131
    by_cases sw_11_8 : y = 8
    · skip
      refine lv_tableIn (tgt := 132) hx hb dX7_told_11 (by rw [sw_11_8]; decide) (by rw [sw_11_8]; decide) (by rw [sw_11_8]; rfl) (by decide) ?_
      refine lv_aload_n hx hb dX7_told_132 rfl (lv_at hl 0 rfl) ?_
      refine va_get (D := D) (cl := vwCl) (ci := 6) (v := .ref (r 16)) (C := RX7) (T := TX7) (N := 35) hx hb hts (fun _ h => List.mem_cons_of_mem _ (List.mem_append_right _ h)) hown hK hP 0 rfl rfl 20 (by decide) (hts (.fieldLink RX7 65 "CheapHoursModel" "fullHours" "[I") (List.mem_of_getElem? (i := 9) rfl)) (fun _ h9 => h9) rfl dX7_told_133 ?_
      refine lv_iload_n hx hb dX7_told_136 rfl (lv_at hl 1 rfl) ?_
      refine jld (v := ((R j) 16)) hx hb hK hP 16 (by decide) hj rfl dX7_told_137 ?_
      rw [← hQQ]
      exact W.iret (v := ((R j) 16)) hx hb hr (fun t9 ht9 hW9 => ⟨_, rfl, (by rw [toldV, if_neg c_5, nI_clamp (by omega)]; simp only [tellV, if_neg sw_11_0, if_neg sw_11_1, if_neg sw_11_2, if_neg sw_11_3, if_neg sw_11_4, if_neg sw_11_5, if_neg sw_11_6, if_neg sw_11_7, if_pos sw_11_8]), ht9⟩) (fun q h => by cases h) dX7_told_138
    by_cases sw_11_9 : y = 9
    · skip
      refine lv_tableIn (tgt := 139) hx hb dX7_told_11 (by rw [sw_11_9]; decide) (by rw [sw_11_9]; decide) (by rw [sw_11_9]; rfl) (by decide) ?_
      refine lv_aload_n hx hb dX7_told_139 rfl (lv_at hl 0 rfl) ?_
      refine va_get (D := D) (cl := vwCl) (ci := 6) (v := .ref (r 17)) (C := RX7) (T := TX7) (N := 35) hx hb hts (fun _ h => List.mem_cons_of_mem _ (List.mem_append_right _ h)) hown hK hP 0 rfl rfl 21 (by decide) (hts (.fieldLink RX7 68 "CheapHoursModel" "place" "[I") (List.mem_of_getElem? (i := 10) rfl)) (fun _ h9 => h9) rfl dX7_told_140 ?_
      refine lv_iload_n hx hb dX7_told_143 rfl (lv_at hl 1 rfl) ?_
      refine jld (v := ((R j) 17)) hx hb hK hP 17 (by decide) hj rfl dX7_told_144 ?_
      rw [← hQQ]
      exact W.iret (v := ((R j) 17)) hx hb hr (fun t9 ht9 hW9 => ⟨_, rfl, (by rw [toldV, if_neg c_5, nI_clamp (by omega)]; simp only [tellV, if_neg sw_11_0, if_neg sw_11_1, if_neg sw_11_2, if_neg sw_11_3, if_neg sw_11_4, if_neg sw_11_5, if_neg sw_11_6, if_neg sw_11_7, if_neg sw_11_8, if_pos sw_11_9]), ht9⟩) (fun q h => by cases h) dX7_told_145
    by_cases sw_11_10 : y = 10
    · skip
      refine lv_tableIn (tgt := 146) hx hb dX7_told_11 (by rw [sw_11_10]; decide) (by rw [sw_11_10]; decide) (by rw [sw_11_10]; rfl) (by decide) ?_
      refine lv_aload_n hx hb dX7_told_146 rfl (lv_at hl 0 rfl) ?_
      refine va_get (D := D) (cl := vwCl) (ci := 6) (v := .ref (r 18)) (C := RX7) (T := TX7) (N := 35) hx hb hts (fun _ h => List.mem_cons_of_mem _ (List.mem_append_right _ h)) hown hK hP 0 rfl rfl 22 (by decide) (hts (.fieldLink RX7 71 "CheapHoursModel" "readyAt" "[I") (List.mem_of_getElem? (i := 11) rfl)) (fun _ h9 => h9) rfl dX7_told_147 ?_
      refine lv_iload_n hx hb dX7_told_150 rfl (lv_at hl 1 rfl) ?_
      refine jld (v := ((R j) 18)) hx hb hK hP 18 (by decide) hj rfl dX7_told_151 ?_
      rw [← hQQ]
      exact W.iret (v := ((R j) 18)) hx hb hr (fun t9 ht9 hW9 => ⟨_, rfl, (by rw [toldV, if_neg c_5, nI_clamp (by omega)]; simp only [tellV, if_neg sw_11_0, if_neg sw_11_1, if_neg sw_11_2, if_neg sw_11_3, if_neg sw_11_4, if_neg sw_11_5, if_neg sw_11_6, if_neg sw_11_7, if_neg sw_11_8, if_neg sw_11_9, if_pos sw_11_10]), ht9⟩) (fun q h => by cases h) dX7_told_152
    by_cases sw_11_11 : y = 11
    · skip
      refine lv_tableIn (tgt := 153) hx hb dX7_told_11 (by rw [sw_11_11]; decide) (by rw [sw_11_11]; decide) (by rw [sw_11_11]; rfl) (by decide) ?_
      refine lv_aload_n hx hb dX7_told_153 rfl (lv_at hl 0 rfl) ?_
      refine lv_iload_n hx hb dX7_told_154 rfl (lv_at hl 1 rfl) ?_
      refine roVi (As := [.int (nI j)]) (rest := []) ⟨hx, hb, hml, hown, hts⟩ (c_X7_need l D cI cL cZ cO a r now full (nI n) lev pr R lp ch me ru wo co j (R j) hj) (cwV 1 hts gX7_told_X7_need rfl rfl rfl (by decide +kernel) ⟨Nat.le_of_ble_eq_true rfl, Nat.le_of_ble_eq_true rfl⟩) hO hP (va_recv hK hP (ci := 6) (q0 := 0) rfl rfl) rfl hl.1 rfl (Nat.le_of_ble_eq_true rfl) dX7_told_155 ⟨Nat.le_of_ble_eq_true rfl, Nat.le_of_ble_eq_true rfl⟩ (fun r_155 e_155 => ?_)
      obtain rfl : r_155 = rNeed (R j) := e_155
      rw [← hQQ]
      exact W.iret (v := (rNeed (R j))) hx hb hr (fun t9 ht9 hW9 => ⟨_, rfl, (by rw [toldV, if_neg c_5, nI_clamp (by omega)]; simp only [tellV, if_neg sw_11_0, if_neg sw_11_1, if_neg sw_11_2, if_neg sw_11_3, if_neg sw_11_4, if_neg sw_11_5, if_neg sw_11_6, if_neg sw_11_7, if_neg sw_11_8, if_neg sw_11_9, if_neg sw_11_10, if_pos sw_11_11]), ht9⟩) (fun q h => by cases h) dX7_told_158
    by_cases sw_11_12 : y = 12
    · skip
      refine lv_tableIn (tgt := 159) hx hb dX7_told_11 (by rw [sw_11_12]; decide) (by rw [sw_11_12]; decide) (by rw [sw_11_12]; rfl) (by decide) ?_
      refine lv_aload_n hx hb dX7_told_159 rfl (lv_at hl 0 rfl) ?_
      refine va_get (D := D) (cl := vwCl) (ci := 6) (v := .ref (r 19)) (C := RX7) (T := TX7) (N := 35) hx hb hts (fun _ h => List.mem_cons_of_mem _ (List.mem_append_right _ h)) hown hK hP 0 rfl rfl 23 (by decide) (hts (.fieldLink RX7 74 "CheapHoursModel" "taken" "[I") (List.mem_of_getElem? (i := 12) rfl)) (fun _ h9 => h9) rfl dX7_told_160 ?_
      refine lv_iload_n hx hb dX7_told_163 rfl (lv_at hl 1 rfl) ?_
      refine jld (v := ((R j) 19)) hx hb hK hP 19 (by decide) hj rfl dX7_told_164 ?_
      rw [← hQQ]
      exact W.iret (v := ((R j) 19)) hx hb hr (fun t9 ht9 hW9 => ⟨_, rfl, (by rw [toldV, if_neg c_5, nI_clamp (by omega)]; simp only [tellV, if_neg sw_11_0, if_neg sw_11_1, if_neg sw_11_2, if_neg sw_11_3, if_neg sw_11_4, if_neg sw_11_5, if_neg sw_11_6, if_neg sw_11_7, if_neg sw_11_8, if_neg sw_11_9, if_neg sw_11_10, if_neg sw_11_11, if_pos sw_11_12]), ht9⟩) (fun q h => by cases h) dX7_told_165
    refine lv_tableOut (tgt := 166) hx hb dX7_told_11 (sw_out13_0 sw_11_0 sw_11_1 sw_11_2 sw_11_3 sw_11_4 sw_11_5 sw_11_6 sw_11_7 sw_11_8 sw_11_9 sw_11_10 sw_11_11 sw_11_12) (by decide) ?_
    refine lv_iconst (v := (-1)) hx hb dX7_told_166 (by decide) ?_
    rw [← hQQ]
    exact W.iret (v := (-1)) hx hb hr (fun t9 ht9 hW9 => ⟨_, rfl, (by rw [toldV, if_neg c_5, nI_clamp (by omega)]; simp only [tellV, if_neg sw_11_0, if_neg sw_11_1, if_neg sw_11_2, if_neg sw_11_3, if_neg sw_11_4, if_neg sw_11_5, if_neg sw_11_6, if_neg sw_11_7, if_neg sw_11_8, if_neg sw_11_9, if_neg sw_11_10, if_neg sw_11_11, if_neg sw_11_12]), ht9⟩) (fun q h => by cases h) dX7_told_167
  · skip
    refine lv_iconst (v := (-1)) hx hb dX7_told_8 (by decide) ?_
    rw [← hQQ]
    exact W.iret (v := (-1)) hx hb hr (fun t9 ht9 hW9 => ⟨_, rfl, (if_pos c_5).symm, ht9⟩) (fun q h => by cases h) dX7_told_9
set_option maxHeartbeats 4000000 in
set_option maxRecDepth 100000 in
theorem c_X7_count (l : Launch) (D : va_G) (cI cL cZ cO : ClassId) (a : Nat) (r : Nat → Nat) (full lev : Int32) (pr : Nat → Int32) (R : Nat → Nat → Int32) (lp ch : Nat → Int32) (me : Nat → Int64) (ru wo co : Nat → Int32) (nw n : Nat) (y : Int32) (hn : n ≤ 12) : Met l yX7_count wsX7_count ({ frames := 0, cells := 0, slots := 0, locals := 0 } : Room) (va_Pc [.ref a, .int y] (Ro D cI cL cZ cO (wM cI cL cZ a r (nI nw) full (nI n) lev pr R lp ch me ru wo co))) (vp_Si (fun r => r = countV nw n full lev R y)) 0 0 (fun _ => False) := by
  refine Met.ofW (cc := cX7_count) (maxL := 4) (ret := (some .int)) (by decide) rfl ?_
  intro p e s m args below meth c s₁ B hml hv
  obtain ⟨rfl, hP, hO⟩ := hv
  have hx := B.exec
  have hb := B.bytes
  have hr := B.returns
  have hts := atoms_spec (ws := wsX7_count) B.pre
  have hown : s.vm.findClass RX7 = some m.cls := findClass_of_methodNamed B.named
  have hlocks := B.notSynchronized
  have hK := hO.1
  have hl := lv_entry ([.ref a, .int y]) (n := 4) (Nat.le_of_ble_eq_true rfl)
  rw [lg_entry_eq]
  generalize (lg_sl ([.ref a, .int y]) ++ List.replicate (4 - (lg_sl ([.ref a, .int y])).length) Slot.unset).toArray = ls at hl ⊢
  have hl : lv_has ls 4 [(0, .ref a), (1, .int y)] := hl
  generalize hQQ : MQ below _ _ s _ _ _ = QQ
  refine lv_iconst (v := 0) hx hb dX7_count_0 (by decide) ?_
  refine lv_istore_n (lv' := [(2, .int 0), (0, .ref a), (1, .int y)]) hx hb dX7_count_1 rfl hl (by decide) rfl (fun ls hl => ?_)
  refine lv_iload_n hx hb dX7_count_2 rfl (lv_at hl 2 rfl) ?_
  by_cases sw_3_0 : y = 0
  · skip
    refine lv_tableIn (tgt := 40) hx hb dX7_count_3 (by rw [sw_3_0]; decide) (by rw [sw_3_0]; decide) (by rw [sw_3_0]; rfl) (by decide) ?_
    refine lv_aload_n hx hb dX7_count_40 rfl (lv_at hl 1 rfl) ?_
    refine va_get (D := D) (cl := vwCl) (ci := 6) (v := .int (nI nw)) (C := RX7) (T := TX7) (N := 35) hx hb hts (fun _ h => List.mem_cons_of_mem _ (List.mem_append_right _ h)) hown hK hP 0 rfl rfl 0 (by decide) (hts (.fieldLink RX7 116 "CheapHoursModel" "now" "I") (by decide +kernel)) (fun _ h9 => h9) rfl dX7_count_41 ?_
    rw [← hQQ]
    exact W.iret (v := (nI nw)) hx hb hr (fun t9 ht9 hW9 => ⟨_, rfl, (by simp only [countV, if_pos sw_3_0]), ht9⟩) (fun q h => by cases h) dX7_count_44
  by_cases sw_3_1 : y = 1
  · skip
    refine lv_tableIn (tgt := 45) hx hb dX7_count_3 (by rw [sw_3_1]; decide) (by rw [sw_3_1]; decide) (by rw [sw_3_1]; rfl) (by decide) ?_
    refine lv_aload_n hx hb dX7_count_45 rfl (lv_at hl 1 rfl) ?_
    refine va_get (D := D) (cl := vwCl) (ci := 6) (v := .int (nI n)) (C := RX7) (T := TX7) (N := 35) hx hb hts (fun _ h => List.mem_cons_of_mem _ (List.mem_append_right _ h)) hown hK hP 0 rfl rfl 3 (by decide) (hts (.fieldLink RX7 109 "CheapHoursModel" "jobs" "I") (by decide +kernel)) (fun _ h9 => h9) rfl dX7_count_46 ?_
    rw [← hQQ]
    exact W.iret (v := (nI n)) hx hb hr (fun t9 ht9 hW9 => ⟨_, rfl, (by simp only [countV, if_neg sw_3_0, if_pos sw_3_1]), ht9⟩) (fun q h => by cases h) dX7_count_49
  by_cases sw_3_2 : y = 2
  · skip
    refine lv_tableIn (tgt := 50) hx hb dX7_count_3 (by rw [sw_3_2]; decide) (by rw [sw_3_2]; decide) (by rw [sw_3_2]; rfl) (by decide) ?_
    refine lv_iconst (v := 0) hx hb dX7_count_50 (by decide) ?_
    refine lv_istore_n (lv' := [(3, .int 0), (2, .int 0), (0, .ref a), (1, .int y)]) hx hb dX7_count_51 rfl hl (by decide) rfl (fun ls hl => ?_)
    have L52 : ∀ (n0 : Nat) (k : Nat) (v : Int32) (ls : Array Slot), n - k < n0 → (k ≤ n) → (v = rdyN R k) → lv_has ls 4 [(3, .int (nI k)), (2, .int v), (0, .ref a), (1, .int y)] → W p l e (headSpec wsX7_count ({ frames := 0, cells := 0, slots := 0, locals := 0 } : Room)).room s m ([.ref a, .int y] : List Value).toArray below meth c s.heap [] 0 0 QQ (F0 m 52 ls []) := by
      intro n0
      induction n0 with
      | zero =>
        intro k v ls hmu
        exact absurd hmu (Nat.not_lt_zero _)
      | succ n0 ih52 =>
        intro k v ls hmu hk hv hl
        refine lv_iload_n hx hb dX7_count_52 rfl (lv_at hl 0 rfl) ?_
        refine lv_aload_n hx hb dX7_count_53 rfl (lv_at hl 2 rfl) ?_
        refine va_get (D := D) (cl := vwCl) (ci := 6) (v := .int (nI n)) (C := RX7) (T := TX7) (N := 35) hx hb hts (fun _ h => List.mem_cons_of_mem _ (List.mem_append_right _ h)) hown hK hP 0 rfl rfl 3 (by decide) (hts (.fieldLink RX7 109 "CheapHoursModel" "jobs" "I") (by decide +kernel)) (fun _ h9 => h9) rfl dX7_count_54 ?_
        refine n_icmp_ge (x := k) (y := n) (tgt := 84) hx hb dX7_count_57 (by decide) (by omega) (by omega) (fun c_57 => ?_) (fun c_57 => ?_)
        · skip
          refine lv_iload_n hx hb dX7_count_84 rfl (lv_at hl 1 rfl) ?_
          rw [← hQQ]
          exact W.iret (v := v) hx hb hr (fun t9 ht9 hW9 => ⟨_, rfl, (by rw [hv, show k = n by omega]; simp only [countV, if_neg sw_3_0, if_neg sw_3_1, if_pos sw_3_2]), ht9⟩) (fun q h => by cases h) dX7_count_85
        · skip
          refine lv_iload_n hx hb dX7_count_60 rfl (lv_at hl 1 rfl) ?_
          refine lv_aload_n hx hb dX7_count_61 rfl (lv_at hl 2 rfl) ?_
          refine va_get (D := D) (cl := vwCl) (ci := 6) (v := .ref (r 18)) (C := RX7) (T := TX7) (N := 35) hx hb hts (fun _ h => List.mem_cons_of_mem _ (List.mem_append_right _ h)) hown hK hP 0 rfl rfl 22 (by decide) (hts (.fieldLink RX7 71 "CheapHoursModel" "readyAt" "[I") (by decide +kernel)) (fun _ h9 => h9) rfl dX7_count_62 ?_
          refine lv_iload_n hx hb dX7_count_65 rfl (lv_at hl 0 rfl) ?_
          refine jldR (v := (R k 18)) hx hb hK hP 18 (by decide) (by omega) rfl dX7_count_66 ?_
          refine lv_iconst (v := (-1)) hx hb dX7_count_67 (by decide) ?_
          refine lv_icmp_eq (tgt := 75) hx hb dX7_count_68 (by decide) (fun c_68 => ?_) (fun c_68 => ?_)
          · skip
            refine lv_iconst (v := 0) hx hb dX7_count_75 (by decide) ?_
            refine lv_iadd hx hb dX7_count_76 ?_
            refine lv_istore_n (lv' := [(2, .int (v + 0)), (3, .int (nI k)), (0, .ref a), (1, .int y)]) hx hb dX7_count_77 rfl hl (by decide) rfl (fun ls hl => ?_)
            refine lv_iinc (v := (nI (k + 1))) (lv' := [(3, .int (nI (k + 1))), (2, .int (v + 0)), (0, .ref a), (1, .int y)]) hx hb dX7_count_78 hl (k := 1) rfl (nI_add k 1) (by decide) rfl (fun ls hl => ?_)
            refine lv_goto (tgt := 52) hx hb dX7_count_81 (by decide) ?_
            exact ih52 (k + 1) (v + 0) _ (by omega) (by omega) (by rw [hv]; simp only [rdyN, if_pos c_68]) (lv_sub hl [0, 1, 2, 3] rfl)
          · skip
            refine lv_iconst (v := 1) hx hb dX7_count_71 (by decide) ?_
            refine lv_goto (tgt := 76) hx hb dX7_count_72 (by decide) ?_
            refine lv_iadd hx hb dX7_count_76 ?_
            refine lv_istore_n (lv' := [(2, .int (v + 1)), (3, .int (nI k)), (0, .ref a), (1, .int y)]) hx hb dX7_count_77 rfl hl (by decide) rfl (fun ls hl => ?_)
            refine lv_iinc (v := (nI (k + 1))) (lv' := [(3, .int (nI (k + 1))), (2, .int (v + 1)), (0, .ref a), (1, .int y)]) hx hb dX7_count_78 hl (k := 1) rfl (nI_add k 1) (by decide) rfl (fun ls hl => ?_)
            refine lv_goto (tgt := 52) hx hb dX7_count_81 (by decide) ?_
            exact ih52 (k + 1) (v + 1) _ (by omega) (by omega) (by rw [hv]; simp only [rdyN, if_neg c_68]) (lv_sub hl [0, 1, 2, 3] rfl)
    exact L52 _ 0 0 _ (Nat.lt_succ_self _) (Nat.zero_le _) rfl (lv_sub hl [0, 1, 2, 3] rfl)
  by_cases sw_3_3 : y = 3
  · skip
    refine lv_tableIn (tgt := 86) hx hb dX7_count_3 (by rw [sw_3_3]; decide) (by rw [sw_3_3]; decide) (by rw [sw_3_3]; rfl) (by decide) ?_
    refine lv_iconst (v := 0) hx hb dX7_count_86 (by decide) ?_
    refine lv_istore_n (lv' := [(3, .int 0), (2, .int 0), (0, .ref a), (1, .int y)]) hx hb dX7_count_87 rfl hl (by decide) rfl (fun ls hl => ?_)
    have L88 : ∀ (n0 : Nat) (k : Nat) (v : Int32) (ls : Array Slot), n - k < n0 → (k ≤ n) → (v = paidN R k) → lv_has ls 4 [(3, .int (nI k)), (2, .int v), (0, .ref a), (1, .int y)] → W p l e (headSpec wsX7_count ({ frames := 0, cells := 0, slots := 0, locals := 0 } : Room)).room s m ([.ref a, .int y] : List Value).toArray below meth c s.heap [] 0 0 QQ (F0 m 88 ls []) := by
      intro n0
      induction n0 with
      | zero =>
        intro k v ls hmu
        exact absurd hmu (Nat.not_lt_zero _)
      | succ n0 ih88 =>
        intro k v ls hmu hk hv hl
        refine lv_iload_n hx hb dX7_count_88 rfl (lv_at hl 0 rfl) ?_
        refine lv_aload_n hx hb dX7_count_89 rfl (lv_at hl 2 rfl) ?_
        refine va_get (D := D) (cl := vwCl) (ci := 6) (v := .int (nI n)) (C := RX7) (T := TX7) (N := 35) hx hb hts (fun _ h => List.mem_cons_of_mem _ (List.mem_append_right _ h)) hown hK hP 0 rfl rfl 3 (by decide) (hts (.fieldLink RX7 109 "CheapHoursModel" "jobs" "I") (by decide +kernel)) (fun _ h9 => h9) rfl dX7_count_90 ?_
        refine n_icmp_ge (x := k) (y := n) (tgt := 111) hx hb dX7_count_93 (by decide) (by omega) (by omega) (fun c_93 => ?_) (fun c_93 => ?_)
        · skip
          refine lv_iload_n hx hb dX7_count_111 rfl (lv_at hl 1 rfl) ?_
          rw [← hQQ]
          exact W.iret (v := v) hx hb hr (fun t9 ht9 hW9 => ⟨_, rfl, (by rw [hv, show k = n by omega]; simp only [countV, if_neg sw_3_0, if_neg sw_3_1, if_neg sw_3_2, if_pos sw_3_3]), ht9⟩) (fun q h => by cases h) dX7_count_112
        · skip
          refine lv_iload_n hx hb dX7_count_96 rfl (lv_at hl 1 rfl) ?_
          refine lv_aload_n hx hb dX7_count_97 rfl (lv_at hl 2 rfl) ?_
          refine va_get (D := D) (cl := vwCl) (ci := 6) (v := .ref (r 15)) (C := RX7) (T := TX7) (N := 35) hx hb hts (fun _ h => List.mem_cons_of_mem _ (List.mem_append_right _ h)) hown hK hP 0 rfl rfl 19 (by decide) (hts (.fieldLink RX7 62 "CheapHoursModel" "paid" "[I") (by decide +kernel)) (fun _ h9 => h9) rfl dX7_count_98 ?_
          refine lv_iload_n hx hb dX7_count_101 rfl (lv_at hl 0 rfl) ?_
          refine jldR (v := (R k 15)) hx hb hK hP 15 (by decide) (by omega) rfl dX7_count_102 ?_
          refine lv_iadd hx hb dX7_count_103 ?_
          refine lv_istore_n (lv' := [(2, .int (v + (R k 15))), (3, .int (nI k)), (0, .ref a), (1, .int y)]) hx hb dX7_count_104 rfl hl (by decide) rfl (fun ls hl => ?_)
          refine lv_iinc (v := (nI (k + 1))) (lv' := [(3, .int (nI (k + 1))), (2, .int (v + (R k 15))), (0, .ref a), (1, .int y)]) hx hb dX7_count_105 hl (k := 1) rfl (nI_add k 1) (by decide) rfl (fun ls hl => ?_)
          refine lv_goto (tgt := 88) hx hb dX7_count_108 (by decide) ?_
          exact ih88 (k + 1) (v + (R k 15)) _ (by omega) (by omega) (by rw [hv]; rfl) (lv_sub hl [0, 1, 2, 3] rfl)
    exact L88 _ 0 0 _ (Nat.lt_succ_self _) (Nat.zero_le _) rfl (lv_sub hl [0, 1, 2, 3] rfl)
  by_cases sw_3_4 : y = 4
  · skip
    refine lv_tableIn (tgt := 113) hx hb dX7_count_3 (by rw [sw_3_4]; decide) (by rw [sw_3_4]; decide) (by rw [sw_3_4]; rfl) (by decide) ?_
    refine lv_aload_n hx hb dX7_count_113 rfl (lv_at hl 1 rfl) ?_
    refine va_get (D := D) (cl := vwCl) (ci := 6) (v := .int lev) (C := RX7) (T := TX7) (N := 35) hx hb hts (fun _ h => List.mem_cons_of_mem _ (List.mem_append_right _ h)) hown hK hP 0 rfl rfl 28 (by decide) (hts (.fieldLink RX7 162 "CheapHoursModel" "levels" "I") (by decide +kernel)) (fun _ h9 => h9) rfl dX7_count_114 ?_
    rw [← hQQ]
    exact W.iret (v := lev) hx hb hr (fun t9 ht9 hW9 => ⟨_, rfl, (by simp only [countV, if_neg sw_3_0, if_neg sw_3_1, if_neg sw_3_2, if_neg sw_3_3, if_pos sw_3_4]), ht9⟩) (fun q h => by cases h) dX7_count_117
  by_cases sw_3_5 : y = 5
  · skip
    refine lv_tableIn (tgt := 118) hx hb dX7_count_3 (by rw [sw_3_5]; decide) (by rw [sw_3_5]; decide) (by rw [sw_3_5]; rfl) (by decide) ?_
    refine lv_aload_n hx hb dX7_count_118 rfl (lv_at hl 1 rfl) ?_
    refine va_get (D := D) (cl := vwCl) (ci := 6) (v := .int full) (C := RX7) (T := TX7) (N := 35) hx hb hts (fun _ h => List.mem_cons_of_mem _ (List.mem_append_right _ h)) hown hK hP 0 rfl rfl 1 (by decide) (hts (.fieldLink RX7 7 "CheapHoursModel" "full" "I") (by decide +kernel)) (fun _ h9 => h9) rfl dX7_count_119 ?_
    rw [← hQQ]
    exact W.iret (v := full) hx hb hr (fun t9 ht9 hW9 => ⟨_, rfl, (by simp only [countV, if_neg sw_3_0, if_neg sw_3_1, if_neg sw_3_2, if_neg sw_3_3, if_neg sw_3_4, if_pos sw_3_5]), ht9⟩) (fun q h => by cases h) dX7_count_122
  refine lv_tableOut (tgt := 123) hx hb dX7_count_3 (sw_out6_0 sw_3_0 sw_3_1 sw_3_2 sw_3_3 sw_3_4 sw_3_5) (by decide) ?_
  refine lv_iconst (v := (-1)) hx hb dX7_count_123 (by decide) ?_
  rw [← hQQ]
  exact W.iret (v := (-1)) hx hb hr (fun t9 ht9 hW9 => ⟨_, rfl, (by simp only [countV, if_neg sw_3_0, if_neg sw_3_1, if_neg sw_3_2, if_neg sw_3_3, if_neg sw_3_4, if_neg sw_3_5]), ht9⟩) (fun q h => by cases h) dX7_count_124
set_option maxHeartbeats 4000000 in
set_option maxRecDepth 100000 in
theorem c_X7_go (l : Launch) (D : va_G) (cI cL cZ cO : ClassId) (sz : Nat) (a : Nat) (r : Nat → Nat) (full lev : Int32) (pr : Nat → Int32) (R : Nat → Nat → Int32) (lp ch : Nat → Int32) (me : Nat → Int64) (ru wo co : Nat → Int32) (nw n : Nat) (x : Int32) (hn : n ≤ 12) (hnw : nw ≤ 200) (hR : ∀ j, j < n → jOk (R j)) : Met l yX7_go wsX7_go ({ frames := 3, cells := 0, slots := 0, locals := 65 } : Room) (va_Pc [.ref a, .int x] (Rw D cI cL cZ cO (wM cI cL cZ a r (nI nw) full (nI n) lev pr R lp ch me ru wo co) sz)) (va_Qi (fun (r : Int32) (u : Unit) => r = goV nw x) (fun (u : Unit) => Wo D (va_A (wM cI cL cZ a r (nI nw) full (nI n) lev pr R lp ch me ru wo co) sz) (wM cI cL cZ a r (nI (goW nw x)) full (nI n) lev pr (goR full pr n nw x R) lp ch me ru wo co)) (va_A (wM cI cL cZ a r (nI nw) full (nI n) lev pr R lp ch me ru wo co) sz)) 0 0 (va_A (wM cI cL cZ a r (nI nw) full (nI n) lev pr R lp ch me ru wo co) sz) := by
  refine Met.ofW (cc := cX7_go) (maxL := 4) (ret := (some .int)) (by decide) rfl ?_
  intro p e s m args below meth c s₁ B hml hv
  obtain ⟨rfl, hsz, hP, hO, hD0⟩ := hv
  have hx := B.exec
  have hb := B.bytes
  have hr := B.returns
  have hts := atoms_spec (ws := wsX7_go) B.pre
  have hown : s.vm.findClass RX7 = some m.cls := findClass_of_methodNamed B.named
  have hlocks := B.notSynchronized
  have hK := hO.1
  subst hsz
  have hD := hD0.self (sz := s.heap.size)
  generalize hAe : va_A (wM cI cL cZ a r (nI nw) full (nI n) lev pr R lp ch me ru wo co) s.heap.size = A at hD ⊢
  have hA : ∀ q : Nat, s.heap.size ≤ q → A q := fun q h => by rw [← hAe]; exact Or.inr h
  have hS : va_S A s.heap s.heap [] := va_S.rf
  have hl := lv_entry ([.ref a, .int x]) (n := 4) (Nat.le_of_ble_eq_true rfl)
  rw [lg_entry_eq]
  generalize (lg_sl ([.ref a, .int x]) ++ List.replicate (4 - (lg_sl ([.ref a, .int x])).length) Slot.unset).toArray = ls at hl ⊢
  have hl : lv_has ls 4 [(0, .ref a), (1, .int x)] := hl
  generalize hQQ : MQ below _ _ s _ _ _ = QQ
  refine lv_iload_n hx hb dX7_go_0 rfl (lv_at hl 1 rfl) ?_
  refine lv_iconst (v := 0) hx hb dX7_go_1 (by decide) ?_
  refine lv_sipush (v := 200) hx hb dX7_go_2 (by decide) ?_
  refine roSi (As := [.int x, .int 0, .int 200]) (rest := []) ⟨hx, hb, hml, hown, hts⟩ (c_X7_in l D cI cL cZ cO x 0 200 ) (va_cwS 3 hts gX7_go_X7_in rfl rfl rfl (by decide +kernel) ⟨Nat.le_of_ble_eq_true rfl, Nat.le_of_ble_eq_true rfl⟩) hO (fun k q h => by simp at h) rfl hl.1 rfl (Nat.le_of_ble_eq_true rfl) dX7_go_5 ⟨Nat.le_of_ble_eq_true rfl, Nat.le_of_ble_eq_true rfl⟩ (fun r_5 e_5 => ?_)
  obtain rfl : r_5 = wi x 0 200 := e_5
  refine lv_if_ne (tgt := 13) hx hb dX7_go_8 (by decide) (fun c_8 => ?_) (fun c_8 => ?_)
  · skip
    obtain ⟨t, -, ht, rfl⟩ := wi_nat (a := 0) (b := 200) (by decide) (by decide) c_8
    refine lv_iconst (v := 0) hx hb dX7_go_13 (by decide) ?_
    refine lv_istore_n (lv' := [(2, .int 0), (0, .ref a), (1, .int (nI t))]) hx hb dX7_go_14 rfl hl (by decide) rfl (fun ls hl => ?_)
    have L15 : ∀ (n0 : Nat) (k : Nat) (nh : Nat) (Q : Nat → Nat → Int32) (H : Heap) (locs : List Loc) (ls : Array Slot), t - k < n0 → (k ≤ t) → (nh ≤ 200) → (∀ j, j < n → jOk (Q j)) → (goN (t - k) nh = goN t nw ∧ goF full pr n (t - k) nh Q = goF full pr n t nw R) → va_P D vwCl (wM cI cL cZ a r (nI nh) full (nI n) lev pr Q lp ch me ru wo co) H → va_D A (wM cI cL cZ a r (nI nh) full (nI n) lev pr Q lp ch me ru wo co) → va_S A s.heap H locs → lv_has ls 4 [(2, .int (nI k)), (0, .ref a), (1, .int (nI t))] → W p l e (headSpec wsX7_go ({ frames := 3, cells := 0, slots := 0, locals := 65 } : Room)).room s m ([.ref a, .int (nI t)] : List Value).toArray below meth c H locs 0 0 QQ (F0 m 15 ls []) := by
      intro n0
      induction n0 with
      | zero =>
        intro k nh Q H locs ls hmu
        exact absurd hmu (Nat.not_lt_zero _)
      | succ n0 ih15 =>
        intro k nh Q H locs ls hmu hk hnh hQ hg hP hD hS hl
        refine lv_iload_n hx hb dX7_go_15 rfl (lv_at hl 0 rfl) ?_
        refine lv_iload_n hx hb dX7_go_16 rfl (lv_at hl 2 rfl) ?_
        refine n_icmp_ge (x := k) (y := t) (tgt := 77) hx hb dX7_go_17 (by decide) (by omega) (by omega) (fun c_17 => ?_) (fun c_17 => ?_)
        · skip
          refine lv_aload_n hx hb dX7_go_77 rfl (lv_at hl 1 rfl) ?_
          refine va_get (D := D) (cl := vwCl) (ci := 6) (v := .int (nI nh)) (C := RX7) (T := TX7) (N := 35) hx hb hts (fun _ h => List.mem_cons_of_mem _ (List.mem_append_right _ h)) hown hK hP 0 rfl rfl 0 (by decide) (hts (.fieldLink RX7 116 "CheapHoursModel" "now" "I") (List.mem_of_getElem? (i := 1) rfl)) (fun _ h9 => h9) rfl dX7_go_78 ?_
          have hg2 : nh = goW nw (nI t) ∧ Q = goR full pr n nw (nI t) R := by
            rw [goW, goR, if_neg c_8, if_neg c_8, nI_clamp (by omega)]
            rw [goN_x (by omega), goF_x (by omega)] at hg
            exact hg
          rw [hg2.2] at hP hD
          rw [hg2.1] at hP hD
          rw [← hQQ]
          exact W.iret (v := (nI nh)) hx hb hr (fun t9 ht9 hW9 => ⟨⟨_, (), rfl, (by rw [goV, if_neg c_8, hg2.1, goW, if_neg c_8]), by rw [ht9]; exact hP, hD⟩, hS.F ht9⟩) hS.2.2 dX7_go_81
        · skip
          refine lv_aload_n hx hb dX7_go_20 rfl (lv_at hl 1 rfl) ?_
          refine va_get (D := D) (cl := vwCl) (ci := 6) (v := .int (nI nh)) (C := RX7) (T := TX7) (N := 35) hx hb hts (fun _ h => List.mem_cons_of_mem _ (List.mem_append_right _ h)) hown hK hP 0 rfl rfl 0 (by decide) (hts (.fieldLink RX7 116 "CheapHoursModel" "now" "I") (List.mem_of_getElem? (i := 1) rfl)) (fun _ h9 => h9) rfl dX7_go_21 ?_
          refine lv_sipush (v := 200) hx hb dX7_go_24 (by decide) ?_
          refine n_icmp_ge (x := nh) (y := 200) (tgt := 77) hx hb dX7_go_27 (by decide) (by omega) (by omega) (fun c_27 => ?_) (fun c_27 => ?_)
          · skip
            refine lv_aload_n hx hb dX7_go_77 rfl (lv_at hl 1 rfl) ?_
            refine va_get (D := D) (cl := vwCl) (ci := 6) (v := .int (nI nh)) (C := RX7) (T := TX7) (N := 35) hx hb hts (fun _ h => List.mem_cons_of_mem _ (List.mem_append_right _ h)) hown hK hP 0 rfl rfl 0 (by decide) (hts (.fieldLink RX7 116 "CheapHoursModel" "now" "I") (List.mem_of_getElem? (i := 1) rfl)) (fun _ h9 => h9) rfl dX7_go_78 ?_
            have hg2 : nh = goW nw (nI t) ∧ Q = goR full pr n nw (nI t) R := by
              rw [goW, goR, if_neg c_8, if_neg c_8, nI_clamp (by omega)]
              rw [goN_x (by omega), goF_x (by omega)] at hg
              exact hg
            rw [hg2.2] at hP hD
            rw [hg2.1] at hP hD
            rw [← hQQ]
            exact W.iret (v := (nI nh)) hx hb hr (fun t9 ht9 hW9 => ⟨⟨_, (), rfl, (by rw [goV, if_neg c_8, hg2.1, goW, if_neg c_8]), by rw [ht9]; exact hP, hD⟩, hS.F ht9⟩) hS.2.2 dX7_go_81
          · skip
            refine lv_iconst (v := 0) hx hb dX7_go_30 (by decide) ?_
            refine lv_istore_n (lv' := [(3, .int 0), (2, .int (nI k)), (0, .ref a), (1, .int (nI t))]) hx hb dX7_go_31 rfl hl (by decide) rfl (fun ls hl => ?_)
            have L32 : ∀ (n0 : Nat) (i : Nat) (H : Heap) (locs : List Loc) (ls : Array Slot), n - i < n0 → (i ≤ n) → va_P D vwCl (wM cI cL cZ a r (nI nh) full (nI n) lev pr (hrs full pr nh i Q) lp ch me ru wo co) H → va_D A (wM cI cL cZ a r (nI nh) full (nI n) lev pr (hrs full pr nh i Q) lp ch me ru wo co) → va_S A s.heap H locs → lv_has ls 4 [(3, .int (nI i)), (2, .int (nI k)), (0, .ref a), (1, .int (nI t))] → W p l e (headSpec wsX7_go ({ frames := 3, cells := 0, slots := 0, locals := 65 } : Room)).room s m ([.ref a, .int (nI t)] : List Value).toArray below meth c H locs 0 0 QQ (F0 m 32 ls []) := by
              intro n0
              induction n0 with
              | zero =>
                intro i H locs ls hmu
                exact absurd hmu (Nat.not_lt_zero _)
              | succ n0 ih32 =>
                intro i H locs ls hmu hi hP hD hS hl
                refine lv_iload_n hx hb dX7_go_32 rfl (lv_at hl 0 rfl) ?_
                refine lv_aload_n hx hb dX7_go_33 rfl (lv_at hl 2 rfl) ?_
                refine va_get (D := D) (cl := vwCl) (ci := 6) (v := .int (nI n)) (C := RX7) (T := TX7) (N := 35) hx hb hts (fun _ h => List.mem_cons_of_mem _ (List.mem_append_right _ h)) hown hK hP 0 rfl rfl 3 (by decide) (hts (.fieldLink RX7 109 "CheapHoursModel" "jobs" "I") (List.mem_of_getElem? (i := 2) rfl)) (fun _ h9 => h9) rfl dX7_go_34 ?_
                refine n_icmp_ge (x := i) (y := n) (tgt := 61) hx hb dX7_go_37 (by decide) (by omega) (by omega) (fun c_37 => ?_) (fun c_37 => ?_)
                · skip
                  have hin : i = n := by omega
                  rw [hin] at hP hD
                  refine lv_aload_n hx hb dX7_go_61 rfl (lv_at hl 2 rfl) ?_
                  refine lv_dup hx hb dX7_go_62 rfl ?_
                  refine va_get (D := D) (cl := vwCl) (ci := 6) (v := .int (nI nh)) (C := RX7) (T := TX7) (N := 35) hx hb hts (fun _ h => List.mem_cons_of_mem _ (List.mem_append_right _ h)) hown hK hP 0 rfl rfl 0 (by decide) (hts (.fieldLink RX7 116 "CheapHoursModel" "now" "I") (List.mem_of_getElem? (i := 1) rfl)) (fun _ h9 => h9) rfl dX7_go_63 ?_
                  refine lv_iconst (v := 1) hx hb dX7_go_66 (by decide) ?_
                  refine n_iadd (x := nh) (y := 1) hx hb dX7_go_67 ?_
                  refine va_put (D := D) (cl := vwCl) (ci := 6) (v := .int (nI (nh + 1))) (ty := .int) (C := RX7) (T := TX7) (N := 35) hx hb hts (fun _ h => List.mem_cons_of_mem _ (List.mem_append_right _ h)) tyX7 tyX7_ok nmX7 hown hK hP hD hS 0 rfl rfl 0 (by decide) (hts (.fieldLink RX7 116 "CheapHoursModel" "now" "I") (List.mem_of_getElem? (i := 1) rfl)) (fun _ h9 => h9) rfl (by decide +kernel) rfl rfl (Nat.le_of_ble_eq_true rfl) dX7_go_68 (fun H locs hP hD hS => ?_)
                  have hP : va_P D vwCl (wM cI cL cZ a r (nI (nh + 1)) full (nI n) lev pr (hrs full pr nh n Q) lp ch me ru wo co) H := hP
                  have hD : va_D A (wM cI cL cZ a r (nI (nh + 1)) full (nI n) lev pr (hrs full pr nh n Q) lp ch me ru wo co) := hD
                  refine lv_iinc (v := (nI (k + 1))) (lv' := [(2, .int (nI (k + 1))), (3, .int (nI i)), (0, .ref a), (1, .int (nI t))]) hx hb dX7_go_71 hl (k := 1) rfl (nI_add k 1) (by decide) rfl (fun ls hl => ?_)
                  refine lv_goto (tgt := 15) hx hb dX7_go_74 (by decide) ?_
                  exact ih15 (k + 1) (nh + 1) (hrs full pr nh n Q) _ _ _ (by omega) (by omega) (by omega) (fun j9 hj9 => jOk_of (hQ j9 hj9) (fun k9 hk9 => hrs_fix Q j9 k9 hk9 n)) (by obtain ⟨g1, g2⟩ := hg; rw [show t - k = t - (k + 1) + 1 by omega] at g1 g2; rw [goN_s c_27] at g1; rw [goF_s c_27] at g2; exact ⟨g1, g2⟩) hP hD hS (lv_sub hl [0, 2, 3] rfl)
                · skip
                  refine lv_aload_n hx hb dX7_go_40 rfl (lv_at hl 2 rfl) ?_
                  refine va_get (D := D) (cl := vwCl) (ci := 6) (v := .ref (r 18)) (C := RX7) (T := TX7) (N := 35) hx hb hts (fun _ h => List.mem_cons_of_mem _ (List.mem_append_right _ h)) hown hK hP 0 rfl rfl 22 (by decide) (hts (.fieldLink RX7 71 "CheapHoursModel" "readyAt" "[I") (List.mem_of_getElem? (i := 3) rfl)) (fun _ h9 => h9) rfl dX7_go_41 ?_
                  refine lv_iload_n hx hb dX7_go_44 rfl (lv_at hl 0 rfl) ?_
                  refine jldR (v := ((hrs full pr nh i Q) i 18)) hx hb hK hP 18 (by decide) (by omega) rfl dX7_go_45 ?_
                  refine lv_iconst (v := (-1)) hx hb dX7_go_46 (by decide) ?_
                  refine lv_icmp_ne (tgt := 55) hx hb dX7_go_47 (by decide) (fun c_47 => ?_) (fun c_47 => ?_)
                  · skip
                    rw [show hrs full pr nh i Q = hrs full pr nh (i + 1) Q by rw [hrs, if_neg c_47]] at hP hD
                    refine lv_iinc (v := (nI (i + 1))) (lv' := [(3, .int (nI (i + 1))), (2, .int (nI k)), (0, .ref a), (1, .int (nI t))]) hx hb dX7_go_55 hl (k := 0) rfl (nI_add i 1) (by decide) rfl (fun ls hl => ?_)
                    refine lv_goto (tgt := 32) hx hb dX7_go_58 (by decide) ?_
                    exact ih32 (i + 1) _ _ _ (by omega) (by omega) hP hD hS (lv_sub hl [0, 1, 2, 3] rfl)
                  · skip
                    have hj : i < 12 := by omega
                    obtain ⟨w9, d9, mk, sv9, bg9, cm9, -, -, hmk, -, -, -, -, -, hrm, -, -, -⟩ := jOk_of (hQ i (by omega)) (fun k9 hk9 => hrs_fix (full := full) (pr := pr) (nw := nh) Q i k9 hk9 i)
                    rw [← va_up_id (hrs full pr nh i Q) i] at hP hD
                    refine lv_aload_n hx hb dX7_go_50 rfl (lv_at hl 2 rfl) ?_
                    refine lv_iload_n hx hb dX7_go_51 rfl (lv_at hl 0 rfl) ?_
                    refine rwVv (As := [.int (nI i)]) (rest := []) ⟨hx, hb, hml, hown, hts⟩ (c_X7_hour l D cI cL cZ cO H.size a r full (nI n) lev pr (hrs full pr nh i Q) lp ch me ru wo co i (hrs full pr nh i Q i) nh mk hj c_27 hmk hrm) (cwV 1 hts gX7_go_X7_hour rfl rfl rfl (by decide +kernel) ⟨Nat.le_of_ble_eq_true rfl, Nat.le_of_ble_eq_true rfl⟩) hO hP hD hS hA (va_recv hK hP (ci := 6) (q0 := 0) rfl rfl) rfl hl.1 rfl (Nat.le_of_ble_eq_true rfl) dX7_go_52 ⟨Nat.le_of_ble_eq_true rfl, Nat.le_of_ble_eq_true rfl⟩ (fun u_52 H locs e_52 hP hD hS => ?_)
                    rw [show va_up (hrs full pr nh i Q) i (rHour full (pr (200 * mk + nh)) nh (hrs full pr nh i Q i)) = hrs full pr nh (i + 1) Q by rw [hrs, if_pos c_47, hrm, nI_clamp (by omega)]] at hP hD
                    have hP : va_P D vwCl (wM cI cL cZ a r (nI nh) full (nI n) lev pr (hrs full pr nh (i + 1) Q) lp ch me ru wo co) H := hP
                    have hD : va_D A (wM cI cL cZ a r (nI nh) full (nI n) lev pr (hrs full pr nh (i + 1) Q) lp ch me ru wo co) := hD
                    refine lv_iinc (v := (nI (i + 1))) (lv' := [(3, .int (nI (i + 1))), (2, .int (nI k)), (0, .ref a), (1, .int (nI t))]) hx hb dX7_go_55 hl (k := 0) rfl (nI_add i 1) (by decide) rfl (fun ls hl => ?_)
                    refine lv_goto (tgt := 32) hx hb dX7_go_58 (by decide) ?_
                    exact ih32 (i + 1) _ _ _ (by omega) (by omega) hP hD hS (lv_sub hl [0, 1, 2, 3] rfl)
            exact L32 _ 0 _ _ _ (Nat.lt_succ_self _) (Nat.zero_le _) hP hD hS (lv_sub hl [0, 1, 2, 3] rfl)
    exact L15 _ 0 nw R _ _ _ (Nat.lt_succ_self _) (Nat.zero_le _) hnw hR ⟨rfl, rfl⟩ hP hD hS (lv_sub hl [0, 1, 2] rfl)
  · skip
    refine lv_iconst (v := (-1)) hx hb dX7_go_11 (by decide) ?_
    rw [show nw = goW nw x by rw [goW, if_pos c_8], show R = goR full pr n nw x R by rw [goR, if_pos c_8]] at hP hD
    rw [← hQQ]
    exact W.iret (v := (-1)) hx hb hr (fun t9 ht9 hW9 => ⟨⟨_, (), rfl, (by rw [goV, if_pos c_8]), by rw [ht9]; exact hP, hD⟩, hS.F ht9⟩) hS.2.2 dX7_go_12
set_option maxHeartbeats 4000000 in
set_option maxRecDepth 100000 in
theorem c_X7_price (l : Launch) (D : va_G) (cI cL cZ cO : ClassId) (sz : Nat) (a : Nat) (r : Nat → Nat) (full jobs lev : Int32) (pr : Nat → Int32) (R : Nat → Nat → Int32) (lp ch : Nat → Int32) (me : Nat → Int64) (ru wo co : Nat → Int32) (nw : Nat) (x f t p0 : Int32) (hnw : nw ≤ 200) : Met l yX7_price wsX7_price ({ frames := 1, cells := 0, slots := 0, locals := 22 } : Room) (va_Pc [.ref a, .int x, .int f, .int t, .int p0] (Rw D cI cL cZ cO (wM cI cL cZ a r (nI nw) full jobs lev pr R lp ch me ru wo co) sz)) (va_Qi (fun (r : Int32) (u : Unit) => r = prOk x f t p0 nw) (fun (u : Unit) => Wo D (va_A (wM cI cL cZ a r (nI nw) full jobs lev pr R lp ch me ru wo co) sz) (wM cI cL cZ a r (nI nw) full jobs lev (prW pr x f t p0 nw) R lp ch me ru wo co)) (va_A (wM cI cL cZ a r (nI nw) full jobs lev pr R lp ch me ru wo co) sz)) 0 0 (va_A (wM cI cL cZ a r (nI nw) full jobs lev pr R lp ch me ru wo co) sz) := by
  refine Met.ofW (cc := cX7_price) (maxL := 6) (ret := (some .boolean)) (by decide) rfl ?_
  intro p e s m args below meth c s₁ B hml hv
  obtain ⟨rfl, hsz, hP, hO, hD0⟩ := hv
  have hx := B.exec
  have hb := B.bytes
  have hr := B.returns
  have hts := atoms_spec (ws := wsX7_price) B.pre
  have hown : s.vm.findClass RX7 = some m.cls := findClass_of_methodNamed B.named
  have hlocks := B.notSynchronized
  have hK := hO.1
  subst hsz
  have hD := hD0.self (sz := s.heap.size)
  generalize hAe : va_A (wM cI cL cZ a r (nI nw) full jobs lev pr R lp ch me ru wo co) s.heap.size = A at hD ⊢
  have hA : ∀ q : Nat, s.heap.size ≤ q → A q := fun q h => by rw [← hAe]; exact Or.inr h
  have hS : va_S A s.heap s.heap [] := va_S.rf
  have hl := lv_entry ([.ref a, .int x, .int f, .int t, .int p0]) (n := 6) (Nat.le_of_ble_eq_true rfl)
  rw [lg_entry_eq]
  generalize (lg_sl ([.ref a, .int x, .int f, .int t, .int p0]) ++ List.replicate (6 - (lg_sl ([.ref a, .int x, .int f, .int t, .int p0])).length) Slot.unset).toArray = ls at hl ⊢
  have hl : lv_has ls 6 [(0, .ref a), (1, .int x), (2, .int f), (3, .int t), (4, .int p0)] := hl
  generalize hQQ : MQ below _ _ s _ _ _ = QQ
  refine lv_iload_n hx hb dX7_price_0 rfl (lv_at hl 1 rfl) ?_
  refine lv_iconst (v := 0) hx hb dX7_price_1 (by decide) ?_
  refine lv_iconst (v := 2) hx hb dX7_price_2 (by decide) ?_
  refine roSi (As := [.int x, .int 0, .int 2]) (rest := []) ⟨hx, hb, hml, hown, hts⟩ (c_X7_in l D cI cL cZ cO x 0 2 ) (va_cwS 3 hts gX7_price_X7_in rfl rfl rfl (by decide +kernel) ⟨Nat.le_of_ble_eq_true rfl, Nat.le_of_ble_eq_true rfl⟩) hO (fun k q h => by simp at h) rfl hl.1 rfl (Nat.le_of_ble_eq_true rfl) dX7_price_3 ⟨Nat.le_of_ble_eq_true rfl, Nat.le_of_ble_eq_true rfl⟩ (fun r_3 e_3 => ?_)
  obtain rfl : r_3 = wi x 0 2 := e_3
  refine lv_if_eq (tgt := 46) hx hb dX7_price_6 (by decide) (fun c_6 => ?_) (fun c_6 => ?_)
  · skip
    refine lv_iconst (v := 0) hx hb dX7_price_46 (by decide) ?_
    have hz : prOk x f t p0 nw = 0 := by simp only [prOk, if_pos c_6]
    have hw : prW pr x f t p0 nw = pr := if_pos hz
    rw [← hw] at hP hD
    rw [← hQQ]
    exact W.zret (v := 0) hx hb hr rfl (fun t9 ht9 hW9 => ⟨⟨_, (), rfl, hz.symm, by rw [ht9]; exact hP, hD⟩, hS.F ht9⟩) hS.2.2 dX7_price_47
  · skip
    refine lv_iload hx hb dX7_price_9 (lv_at hl 4 rfl) ?_
    refine lv_iconst (v := (-1)) hx hb dX7_price_11 (by decide) ?_
    refine lv_sipush (v := 999) hx hb dX7_price_12 (by decide) ?_
    refine roSi (As := [.int p0, .int (-1), .int 999]) (rest := []) ⟨hx, hb, hml, hown, hts⟩ (c_X7_in l D cI cL cZ cO p0 (-1) 999 ) (va_cwS 3 hts gX7_price_X7_in rfl rfl rfl (by decide +kernel) ⟨Nat.le_of_ble_eq_true rfl, Nat.le_of_ble_eq_true rfl⟩) hO (fun k q h => by simp at h) rfl hl.1 rfl (Nat.le_of_ble_eq_true rfl) dX7_price_15 ⟨Nat.le_of_ble_eq_true rfl, Nat.le_of_ble_eq_true rfl⟩ (fun r_15 e_15 => ?_)
    obtain rfl : r_15 = wi p0 (-1) 999 := e_15
    refine lv_if_eq (tgt := 46) hx hb dX7_price_18 (by decide) (fun c_18 => ?_) (fun c_18 => ?_)
    · skip
      refine lv_iconst (v := 0) hx hb dX7_price_46 (by decide) ?_
      have hz : prOk x f t p0 nw = 0 := by simp only [prOk, if_neg c_6, if_pos c_18]
      have hw : prW pr x f t p0 nw = pr := if_pos hz
      rw [← hw] at hP hD
      rw [← hQQ]
      exact W.zret (v := 0) hx hb hr rfl (fun t9 ht9 hW9 => ⟨⟨_, (), rfl, hz.symm, by rw [ht9]; exact hP, hD⟩, hS.F ht9⟩) hS.2.2 dX7_price_47
    · skip
      refine lv_iload_n hx hb dX7_price_21 rfl (lv_at hl 2 rfl) ?_
      refine lv_aload_n hx hb dX7_price_22 rfl (lv_at hl 0 rfl) ?_
      refine va_get (D := D) (cl := vwCl) (ci := 6) (v := .int (nI nw)) (C := RX7) (T := TX7) (N := 35) hx hb hts (fun _ h => List.mem_cons_of_mem _ (List.mem_append_right _ h)) hown hK hP 0 rfl rfl 0 (by decide) (hts (.fieldLink RX7 116 "CheapHoursModel" "now" "I") (by decide +kernel)) (fun _ h9 => h9) rfl dX7_price_23 ?_
      refine lv_sipush (v := 199) hx hb dX7_price_26 (by decide) ?_
      refine roSi (As := [.int f, .int (nI nw), .int 199]) (rest := []) ⟨hx, hb, hml, hown, hts⟩ (c_X7_in l D cI cL cZ cO f (nI nw) 199 ) (va_cwS 3 hts gX7_price_X7_in rfl rfl rfl (by decide +kernel) ⟨Nat.le_of_ble_eq_true rfl, Nat.le_of_ble_eq_true rfl⟩) hO (fun k q h => by simp at h) rfl hl.1 rfl (Nat.le_of_ble_eq_true rfl) dX7_price_29 ⟨Nat.le_of_ble_eq_true rfl, Nat.le_of_ble_eq_true rfl⟩ (fun r_29 e_29 => ?_)
      obtain rfl : r_29 = wi f (nI nw) 199 := e_29
      refine lv_if_eq (tgt := 46) hx hb dX7_price_32 (by decide) (fun c_32 => ?_) (fun c_32 => ?_)
      · skip
        refine lv_iconst (v := 0) hx hb dX7_price_46 (by decide) ?_
        have hz : prOk x f t p0 nw = 0 := by simp only [prOk, if_neg c_6, if_neg c_18, if_pos c_32]
        have hw : prW pr x f t p0 nw = pr := if_pos hz
        rw [← hw] at hP hD
        rw [← hQQ]
        exact W.zret (v := 0) hx hb hr rfl (fun t9 ht9 hW9 => ⟨⟨_, (), rfl, hz.symm, by rw [ht9]; exact hP, hD⟩, hS.F ht9⟩) hS.2.2 dX7_price_47
      · skip
        refine lv_iload_n hx hb dX7_price_35 rfl (lv_at hl 3 rfl) ?_
        refine lv_iload_n hx hb dX7_price_36 rfl (lv_at hl 2 rfl) ?_
        refine lv_sipush (v := 199) hx hb dX7_price_37 (by decide) ?_
        refine roSi (As := [.int t, .int f, .int 199]) (rest := []) ⟨hx, hb, hml, hown, hts⟩ (c_X7_in l D cI cL cZ cO t f 199 ) (va_cwS 3 hts gX7_price_X7_in rfl rfl rfl (by decide +kernel) ⟨Nat.le_of_ble_eq_true rfl, Nat.le_of_ble_eq_true rfl⟩) hO (fun k q h => by simp at h) rfl hl.1 rfl (Nat.le_of_ble_eq_true rfl) dX7_price_40 ⟨Nat.le_of_ble_eq_true rfl, Nat.le_of_ble_eq_true rfl⟩ (fun r_40 e_40 => ?_)
        obtain rfl : r_40 = wi t f 199 := e_40
        refine lv_if_ne (tgt := 48) hx hb dX7_price_43 (by decide) (fun c_43 => ?_) (fun c_43 => ?_)
        · skip
          have hok : ¬ prOk x f t p0 nw = 0 := by simp only [prOk, if_neg c_6, if_neg c_18, if_neg c_32, if_neg c_43]; decide
          have hok1 : prOk x f t p0 nw = 1 := by simp only [prOk, if_neg c_6, if_neg c_18, if_neg c_32, if_neg c_43]
          obtain ⟨mk, fr, to, h1, h2, h3, h4, rfl, rfl, rfl⟩ := prOk_nat hnw hok
          refine lv_iload_n hx hb dX7_price_48 rfl (lv_at hl 2 rfl) ?_
          rw [← setE_0 pr (200 * mk + fr) p0] at hP hD
          refine lv_istore (lv' := [(5, .int (nI fr)), (0, .ref a), (1, .int (nI mk)), (2, .int (nI fr)), (3, .int (nI to)), (4, .int p0)]) hx hb dX7_price_49 hl (by decide) rfl (fun ls hl => ?_)
          have L51 : ∀ (n0 : Nat) (e9 : Nat) (H : Heap) (locs : List Loc) (ls : Array Slot), to + 1 - fr - e9 < n0 → (fr + e9 ≤ to + 1) → va_P D vwCl (wM cI cL cZ a r (nI nw) full jobs lev (setE pr (200 * mk + fr) e9 p0) R lp ch me ru wo co) H → va_D A (wM cI cL cZ a r (nI nw) full jobs lev (setE pr (200 * mk + fr) e9 p0) R lp ch me ru wo co) → va_S A s.heap H locs → lv_has ls 6 [(5, .int (nI (fr + e9))), (0, .ref a), (1, .int (nI mk)), (2, .int (nI fr)), (3, .int (nI to)), (4, .int p0)] → W p l e (headSpec wsX7_price ({ frames := 1, cells := 0, slots := 0, locals := 22 } : Room)).room s m ([.ref a, .int (nI mk), .int (nI fr), .int (nI to), .int p0] : List Value).toArray below meth c H locs 0 0 QQ (F0 m 51 ls []) := by
            intro n0
            induction n0 with
            | zero =>
              intro e9 H locs ls hmu
              exact absurd hmu (Nat.not_lt_zero _)
            | succ n0 ih51 =>
              intro e9 H locs ls hmu he hP hD hS hl
              refine lv_iload hx hb dX7_price_51 (lv_at hl 0 rfl) ?_
              refine lv_iload_n hx hb dX7_price_53 rfl (lv_at hl 4 rfl) ?_
              refine n_icmp_gt (x := (fr + e9)) (y := to) (tgt := 78) hx hb dX7_price_54 (by decide) (by omega) (by omega) (fun c_54 => ?_) (fun c_54 => ?_)
              · skip
                refine lv_iconst (v := 1) hx hb dX7_price_78 (by decide) ?_
                have hw : prW pr (nI mk) (nI fr) (nI to) p0 nw = setE pr (200 * mk + fr) e9 p0 := by
                  rw [prW, if_neg hok, nI_clamp (by omega), nI_clamp (by omega), nI_clamp (by omega)]
                  exact (setE_R pr _ _ _ p0 (by omega)).symm
                rw [← hw] at hP hD
                rw [← hQQ]
                exact W.zret (v := 1) hx hb hr rfl (fun t9 ht9 hW9 => ⟨⟨_, (), rfl, hok1.symm, by rw [ht9]; exact hP, hD⟩, hS.F ht9⟩) hS.2.2 dX7_price_79
              · skip
                refine lv_aload_n hx hb dX7_price_57 rfl (lv_at hl 1 rfl) ?_
                refine va_get (D := D) (cl := vwCl) (ci := 6) (v := .ref (r 24)) (C := RX7) (T := TX7) (N := 35) hx hb hts (fun _ h => List.mem_cons_of_mem _ (List.mem_append_right _ h)) hown hK hP 0 rfl rfl 2 (by decide) (hts (.fieldLink RX7 13 "CheapHoursModel" "prices" "[I") (by decide +kernel)) (fun _ h9 => h9) rfl dX7_price_58 ?_
                refine lv_sipush (v := 200) hx hb dX7_price_61 (by decide) ?_
                refine lv_iload_n hx hb dX7_price_64 rfl (lv_at hl 2 rfl) ?_
                refine n_imul (x := 200) (y := mk) hx hb dX7_price_65 ?_
                refine lv_iload hx hb dX7_price_66 (lv_at hl 0 rfl) ?_
                refine n_iadd (x := (200 * mk)) (y := (fr + e9)) hx hb dX7_price_68 ?_
                refine lv_iload hx hb dX7_price_69 (lv_at hl 5 rfl) ?_
                refine n_iast (D := D) (cl := vwCl) (x := ((200 * mk) + (fr + e9))) (v := p0) hx hb hK hP hD hS 1 0 (f := (setE pr (200 * mk + fr) e9 p0)) rfl rfl (by omega) (Nat.le_of_ble_eq_true rfl) dX7_price_71 (fun H locs hP hD hS => ?_)
                have hP : va_P D vwCl (wM cI cL cZ a r (nI nw) full jobs lev (upd (setE pr (200 * mk + fr) e9 p0) ((200 * mk) + (fr + e9)) p0) R lp ch me ru wo co) H := hP
                have hD : va_D A (wM cI cL cZ a r (nI nw) full jobs lev (upd (setE pr (200 * mk + fr) e9 p0) ((200 * mk) + (fr + e9)) p0) R lp ch me ru wo co) := hD
                rw [show 200 * mk + (fr + e9) = 200 * mk + fr + e9 by omega, setE_s] at hP hD
                refine lv_iinc (v := (nI ((fr + e9) + 1))) (lv' := [(5, .int (nI ((fr + e9) + 1))), (0, .ref a), (1, .int (nI mk)), (2, .int (nI fr)), (3, .int (nI to)), (4, .int p0)]) hx hb dX7_price_72 hl (k := 0) rfl (nI_add (fr + e9) 1) (by decide) rfl (fun ls hl => ?_)
                refine lv_goto (tgt := 51) hx hb dX7_price_75 (by decide) ?_
                exact ih51 (e9 + 1) _ _ _ (by omega) (by omega) hP hD hS (lv_sub hl [0, 1, 2, 3, 4, 5] rfl)
          exact L51 _ 0 _ _ _ (Nat.lt_succ_self _) (by omega) hP hD hS (lv_sub hl [0, 1, 2, 3, 4, 5] rfl)
        · skip
          refine lv_iconst (v := 0) hx hb dX7_price_46 (by decide) ?_
          have hz : prOk x f t p0 nw = 0 := by simp only [prOk, if_neg c_6, if_neg c_18, if_neg c_32, if_pos c_43]
          have hw : prW pr x f t p0 nw = pr := if_pos hz
          rw [← hw] at hP hD
          rw [← hQQ]
          exact W.zret (v := 0) hx hb hr rfl (fun t9 ht9 hW9 => ⟨⟨_, (), rfl, hz.symm, by rw [ht9]; exact hP, hD⟩, hS.F ht9⟩) hS.2.2 dX7_price_47
set_option maxHeartbeats 4000000 in
set_option maxRecDepth 100000 in
theorem c_X7_full (l : Launch) (D : va_G) (cI cL cZ cO : ClassId) (sz : Nat) (a : Nat) (r : Nat → Nat) (full lev : Int32) (pr : Nat → Int32) (R : Nat → Nat → Int32) (lp ch : Nat → Int32) (me : Nat → Int64) (ru wo co : Nat → Int32) (nw n : Nat) (x : Int32) (hn : n ≤ 12) (hnw : nw ≤ 200) : Met l yX7_full wsX7_full ({ frames := 1, cells := 0, slots := 0, locals := 22 } : Room) (va_Pc [.ref a, .int x] (Rw D cI cL cZ cO (wM cI cL cZ a r (nI nw) full (nI n) lev pr R lp ch me ru wo co) sz)) (va_Qi (fun (r : Int32) (u : Unit) => r = fuOk x nw n) (fun (u : Unit) => Wo D (va_A (wM cI cL cZ a r (nI nw) full (nI n) lev pr R lp ch me ru wo co) sz) (wM cI cL cZ a r (nI nw) (fuW full x nw n) (nI n) lev pr R lp ch me ru wo co)) (va_A (wM cI cL cZ a r (nI nw) full (nI n) lev pr R lp ch me ru wo co) sz)) 0 0 (va_A (wM cI cL cZ a r (nI nw) full (nI n) lev pr R lp ch me ru wo co) sz) := by
  refine Met.ofW (cc := cX7_full) (maxL := 2) (ret := (some .boolean)) (by decide) rfl ?_
  intro p e s m args below meth c s₁ B hml hv
  obtain ⟨rfl, hsz, hP, hO, hD0⟩ := hv
  have hx := B.exec
  have hb := B.bytes
  have hr := B.returns
  have hts := atoms_spec (ws := wsX7_full) B.pre
  have hown : s.vm.findClass RX7 = some m.cls := findClass_of_methodNamed B.named
  have hlocks := B.notSynchronized
  have hK := hO.1
  subst hsz
  have hD := hD0.self (sz := s.heap.size)
  generalize hAe : va_A (wM cI cL cZ a r (nI nw) full (nI n) lev pr R lp ch me ru wo co) s.heap.size = A at hD ⊢
  have hA : ∀ q : Nat, s.heap.size ≤ q → A q := fun q h => by rw [← hAe]; exact Or.inr h
  have hS : va_S A s.heap s.heap [] := va_S.rf
  have hl := lv_entry ([.ref a, .int x]) (n := 2) (Nat.le_of_ble_eq_true rfl)
  rw [lg_entry_eq]
  generalize (lg_sl ([.ref a, .int x]) ++ List.replicate (2 - (lg_sl ([.ref a, .int x])).length) Slot.unset).toArray = ls at hl ⊢
  have hl : lv_has ls 2 [(0, .ref a), (1, .int x)] := hl
  generalize hQQ : MQ below _ _ s _ _ _ = QQ
  refine lv_iload_n hx hb dX7_full_0 rfl (lv_at hl 1 rfl) ?_
  refine lv_iconst (v := 1) hx hb dX7_full_1 (by decide) ?_
  refine lv_sipush (v := 999) hx hb dX7_full_2 (by decide) ?_
  refine roSi (As := [.int x, .int 1, .int 999]) (rest := []) ⟨hx, hb, hml, hown, hts⟩ (c_X7_in l D cI cL cZ cO x 1 999 ) (va_cwS 3 hts gX7_full_X7_in rfl rfl rfl (by decide +kernel) ⟨Nat.le_of_ble_eq_true rfl, Nat.le_of_ble_eq_true rfl⟩) hO (fun k q h => by simp at h) rfl hl.1 rfl (Nat.le_of_ble_eq_true rfl) dX7_full_5 ⟨Nat.le_of_ble_eq_true rfl, Nat.le_of_ble_eq_true rfl⟩ (fun r_5 e_5 => ?_)
  obtain rfl : r_5 = wi x 1 999 := e_5
  refine lv_if_eq (tgt := 25) hx hb dX7_full_8 (by decide) (fun c_8 => ?_) (fun c_8 => ?_)
  · skip
    refine lv_iconst (v := 0) hx hb dX7_full_25 (by decide) ?_
    have hz : fuOk x nw n = 0 := by simp only [fuOk, if_pos c_8]
    have hw : fuW full x nw n = full := if_pos hz
    rw [← hw] at hP hD
    rw [← hQQ]
    exact W.zret (v := 0) hx hb hr rfl (fun t9 ht9 hW9 => ⟨⟨_, (), rfl, hz.symm, by rw [ht9]; exact hP, hD⟩, hS.F ht9⟩) hS.2.2 dX7_full_26
  · skip
    refine lv_aload_n hx hb dX7_full_11 rfl (lv_at hl 0 rfl) ?_
    refine va_get (D := D) (cl := vwCl) (ci := 6) (v := .int (nI nw)) (C := RX7) (T := TX7) (N := 35) hx hb hts (fun _ h => List.mem_cons_of_mem _ (List.mem_append_right _ h)) hown hK hP 0 rfl rfl 0 (by decide) (hts (.fieldLink RX7 116 "CheapHoursModel" "now" "I") (List.mem_of_getElem? (i := 1) rfl)) (fun _ h9 => h9) rfl dX7_full_12 ?_
    refine n_if_gt (x := nw) (tgt := 25) hx hb dX7_full_15 (by decide) (by omega) (fun c_15 => ?_) (fun c_15 => ?_)
    · skip
      refine lv_iconst (v := 0) hx hb dX7_full_25 (by decide) ?_
      have hz : fuOk x nw n = 0 := by simp only [fuOk, if_neg c_8, if_pos c_15]
      have hw : fuW full x nw n = full := if_pos hz
      rw [← hw] at hP hD
      rw [← hQQ]
      exact W.zret (v := 0) hx hb hr rfl (fun t9 ht9 hW9 => ⟨⟨_, (), rfl, hz.symm, by rw [ht9]; exact hP, hD⟩, hS.F ht9⟩) hS.2.2 dX7_full_26
    · skip
      refine lv_aload_n hx hb dX7_full_18 rfl (lv_at hl 0 rfl) ?_
      refine va_get (D := D) (cl := vwCl) (ci := 6) (v := .int (nI n)) (C := RX7) (T := TX7) (N := 35) hx hb hts (fun _ h => List.mem_cons_of_mem _ (List.mem_append_right _ h)) hown hK hP 0 rfl rfl 3 (by decide) (hts (.fieldLink RX7 109 "CheapHoursModel" "jobs" "I") (List.mem_of_getElem? (i := 2) rfl)) (fun _ h9 => h9) rfl dX7_full_19 ?_
      refine n_if_le (x := n) (tgt := 27) hx hb dX7_full_22 (by decide) (by omega) (fun c_22 => ?_) (fun c_22 => ?_)
      · skip
        refine lv_aload_n hx hb dX7_full_27 rfl (lv_at hl 0 rfl) ?_
        refine lv_iload_n hx hb dX7_full_28 rfl (lv_at hl 1 rfl) ?_
        refine va_put (D := D) (cl := vwCl) (ci := 6) (v := .int x) (ty := .int) (C := RX7) (T := TX7) (N := 35) hx hb hts (fun _ h => List.mem_cons_of_mem _ (List.mem_append_right _ h)) tyX7 tyX7_ok nmX7 hown hK hP hD hS 0 rfl rfl 1 (by decide) (hts (.fieldLink RX7 7 "CheapHoursModel" "full" "I") (List.mem_of_getElem? (i := 3) rfl)) (fun _ h9 => h9) rfl (by decide +kernel) rfl rfl (Nat.le_of_ble_eq_true rfl) dX7_full_29 (fun H locs hP hD hS => ?_)
        have hP : va_P D vwCl (wM cI cL cZ a r (nI nw) x (nI n) lev pr R lp ch me ru wo co) H := hP
        have hD : va_D A (wM cI cL cZ a r (nI nw) x (nI n) lev pr R lp ch me ru wo co) := hD
        refine lv_iconst (v := 1) hx hb dX7_full_32 (by decide) ?_
        have hz : fuOk x nw n = 1 := by simp only [fuOk, if_neg c_8, if_neg (show ¬ 0 < nw by omega), if_pos c_22]
        have hw : fuW full x nw n = x := if_neg (by rw [hz]; decide)
        rw [← hw] at hP hD
        rw [← hQQ]
        exact W.zret (v := 1) hx hb hr rfl (fun t9 ht9 hW9 => ⟨⟨_, (), rfl, hz.symm, by rw [ht9]; exact hP, hD⟩, hS.F ht9⟩) hS.2.2 dX7_full_33
      · skip
        refine lv_iconst (v := 0) hx hb dX7_full_25 (by decide) ?_
        have hz : fuOk x nw n = 0 := by simp only [fuOk, if_neg c_8, if_neg (show ¬ 0 < nw by omega), if_neg (show ¬ n = 0 by omega)]
        have hw : fuW full x nw n = full := if_pos hz
        rw [← hw] at hP hD
        rw [← hQQ]
        exact W.zret (v := 0) hx hb hr rfl (fun t9 ht9 hW9 => ⟨⟨_, (), rfl, hz.symm, by rw [ht9]; exact hP, hD⟩, hS.F ht9⟩) hS.2.2 dX7_full_26
