theorem va_P_mem {D : va_G} {w w' : va_W} {H : Heap} (h : va_P D vwCl w H) (hm : ∀ c ∈ w', c ∈ w) : va_P D vwCl w' H := by
  intro k c hk
  obtain ⟨i, hi⟩ := List.getElem?_of_mem (hm c (List.mem_of_getElem? hk))
  exact h i c hi
theorem va_D_nd {A : Nat → Prop} {w : va_W} : va_D A w ↔ (w.map (fun c => c.1)).Nodup ∧ ∀ c ∈ w, A c.1 := by
  constructor
  · intro h
    refine ⟨?_, fun c hc => ?_⟩
    · rw [List.Nodup, List.pairwise_iff_getElem]
      intro i j hi hj hij e
      have hi' : i < w.length := by simpa using hi
      have hj' : j < w.length := by simpa using hj
      have e' : (w[i]'hi').1 = (w[j]'hj').1 := by simpa using e
      have := h.1 i j _ _ (List.getElem?_eq_getElem hi') (List.getElem?_eq_getElem hj') e'
      omega
    · obtain ⟨i, hi⟩ := List.getElem?_of_mem hc
      exact h.2 i c hi
  · rintro ⟨h1, h2⟩
    refine ⟨fun i j a b hi hj e => ?_, fun k c hk => h2 c (List.mem_of_getElem? hk)⟩
    rw [List.Nodup, List.pairwise_iff_getElem] at h1
    have li : i < w.length := (List.getElem?_eq_some_iff.mp hi).1
    have lj : j < w.length := (List.getElem?_eq_some_iff.mp hj).1
    have ei : w[i] = a := (List.getElem?_eq_some_iff.mp hi).2
    have ej : w[j] = b := (List.getElem?_eq_some_iff.mp hj).2
    rcases Nat.lt_trichotomy i j with q | q | q
    · exact (h1 i j (by simpa using li) (by simpa using lj) q (by simp [ei, ej, e])).elim
    · exact q
    · exact (h1 j i (by simpa using lj) (by simpa using li) q (by simp [ei, ej, e])).elim
theorem va_D_perm {A : Nat → Prop} {w w' : va_W} (h : va_D A w) (hp : w.Perm w') : va_D A w' := by
  rw [va_D_nd] at h ⊢
  exact ⟨(hp.map _).nodup_iff.mp h.1, fun c hc => h.2 c (hp.mem_iff.mpr hc)⟩
theorem rotP {D : va_G} {w : va_W} {x : Nat × va_E} {H : Heap} (h : va_P D vwCl (w ++ [x]) H) : va_P D vwCl (x :: w) H := va_P_mem h (fun c hc => by
  rcases List.mem_cons.mp hc with rfl | h2
  · exact List.mem_append_right _ List.mem_cons_self
  · exact List.mem_append_left _ h2)
theorem rotD {A : Nat → Prop} {w : va_W} {x : Nat × va_E} (h : va_D A (w ++ [x])) : va_D A (x :: w) := va_D_perm h (List.perm_append_singleton x w)
theorem tlP {D : va_G} {w : va_W} {x : Nat × va_E} {H : Heap} (h : va_P D vwCl (x :: w) H) : va_P D vwCl w H := va_P_mem h (fun c hc => List.mem_cons_of_mem _ hc)
theorem tlD {A : Nat → Prop} {w : va_W} {x : Nat × va_E} (h : va_D A (x :: w)) : va_D A w := by
  rw [va_D_nd] at h ⊢
  exact ⟨(List.nodup_cons.mp h.1).2, fun c hc => h.2 c (List.mem_cons_of_mem _ hc)⟩
theorem jRef_up (ja : Nat → Nat) (n a : Nat) : va_up (jRef ja n) n (some a) = jRef (va_up ja n a) (n + 1) := by
  funext j
  unfold va_up jRef
  by_cases h : j = n
  · subst h; simp
  · by_cases h2 : j < n
    · simp [h, h2, show j < n + 1 by omega]
    · simp [h, h2, show ¬ j < n + 1 by omega]
theorem jP_up (ja ta : Nat → Nat) (R : Nat → Nat → Int32) (n a t : Nat) (row : Nat → Int32) : jP (va_up ja n a) (va_up ta n t) (va_up R n row) (n + 1) = jP ja ta R n ++ [(a, .inr (1, jobFs t row))] := by
  unfold jP
  rw [List.range_succ, List.map_append]
  congr 1
  · apply List.map_congr_left
    intro i hi
    have : i ≠ n := Nat.ne_of_lt (List.mem_range.mp hi)
    rw [va_up_ne _ _ this, va_up_ne _ _ this, va_up_ne _ _ this]
  · simp [va_up]
theorem tP_up (ta : Nat → Nat) (R : Nat → Nat → Int32) (n t : Nat) (row : Nat → Int32) : tP (va_up ta n t) (va_up R n row) (n + 1) = tP ta R n ++ [(t, .inr (4, teFs row))] := by
  unfold tP
  rw [List.range_succ, List.map_append]
  congr 1
  · apply List.map_congr_left
    intro i hi
    have : i ≠ n := Nat.ne_of_lt (List.mem_range.mp hi)
    rw [va_up_ne _ _ this, va_up_ne _ _ this]
  · simp [va_up]
theorem perm_grow {F A B : va_W} {x y : Nat × va_E} : (x :: y :: (F ++ (A ++ B))).Perm (F ++ ((A ++ [x]) ++ (B ++ [y]))) := by
  have h1 : ((A ++ [x]) ++ (B ++ [y])).Perm (x :: y :: (A ++ B)) := by
    refine ((List.perm_append_singleton x A).append (List.perm_append_singleton y B)).trans ?_
    exact (List.Perm.cons x List.perm_middle)
  refine List.Perm.symm ((List.Perm.append_left F h1).trans ?_)
  exact List.perm_middle.trans (List.Perm.cons x List.perm_middle)
theorem div_neg {x : Int32} (h : x < 0) : wi (x / 1000000) 1 30 = 0 := by
  apply wi_0
  intro q
  have h1 := Int32.le_iff_toInt_le.mp q.1
  have h2 := Int32.lt_iff_toInt_lt.mp h
  have e1 : (1 : Int32).toInt = 1 := by decide
  have e0 : (0 : Int32).toInt = 0 := by decide
  have em : (1000000 : Int32).toInt = 1000000 := by decide
  rw [Int32.toInt_div, em] at h1
  have h3 : x.toInt.tdiv 1000000 ≤ 0 := by
    have : 0 ≤ (-x.toInt).tdiv 1000000 := Int.tdiv_nonneg (by omega) (by decide)
    rw [Int.neg_tdiv] at this
    omega
  have h4 : -2147483648 ≤ x.toInt.tdiv 1000000 := by
    have hm := Int32.le_toInt x
    have : (-x.toInt).tdiv 1000000 ≤ -x.toInt := Int.tdiv_le_self _ (by omega)
    rw [Int.neg_tdiv] at this
    have e5 : Int32.minValue.toInt = -2147483648 := by decide
    omega
  rw [Int.bmod_eq_of_le (by omega) (by omega)] at h1
  omega
theorem wi_n1 {m b : Nat} (hm : m < 2 ^ 31) (hb : b < 2 ^ 31) : ¬ wi (nI m) 0 (nI b) = 0 ↔ m ≤ b := by
  constructor
  · intro h
    exact Nat.le_of_not_lt (fun q => h ((wi_n0 hm hb).mpr q))
  · intro h q
    exact absurd ((wi_n0 hm hb).mp q) (by omega)
/-- the class's look at a job's terms, and the reference's -/
theorem cb_eq {x b sp : Int32} {nw n : Nat} (hn : n < 12) : cbV (x / 1000000) (x / 1000 - x / 1000 / 1000 * 1000) (x / 100 - x / 100 / 10 * 10) (x / 10 - x / 10 / 10 * 10) (x - x / 10 * 10) b sp (nI nw) = jobW x b sp nw n := by
  by_cases hx : x < 0
  · rw [jobW, if_pos hx, cbV, if_pos (div_neg hx)]
  · obtain ⟨v, hv, rfl⟩ := nI_of hx
    rw [jobW, if_neg hx, nI_clamp hv]
    have a0 : nI v / 1000000 = nI (v / 1000000) := pk_div hv (d := 1000000) (by decide) (by decide)
    have a1 : nI v / 1000 = nI (v / 1000) := pk_div hv (d := 1000) (by decide) (by decide)
    have a2 : nI v / 100 = nI (v / 100) := pk_div hv (d := 100) (by decide) (by decide)
    have a3 : nI v / 10 = nI (v / 10) := pk_div hv (d := 10) (by decide) (by decide)
    have b1 : nI v / 1000 - nI v / 1000 / 1000 * 1000 = nI (v / 1000 % 1000) := by rw [a1]; exact pk_rem (d := 1000) (by omega) (by decide) (by decide)
    have b2 : nI v / 100 - nI v / 100 / 10 * 10 = nI (v / 100 % 10) := by rw [a2]; exact pk_rem (d := 10) (by omega) (by decide) (by decide)
    have b3 : nI v / 10 - nI v / 10 / 10 * 10 = nI (v / 10 % 10) := by rw [a3]; exact pk_rem (d := 10) (by omega) (by decide) (by decide)
    have b4 : nI v - nI v / 10 * 10 = nI (v % 10) := pk_rem (d := 10) hv (by decide) (by decide)
    rw [b1, b2, b3, b4, a0, cbV, jobK]
    by_cases c0 : wi (nI (v / 1000000)) 1 30 = 0
    · rw [if_pos c0, if_pos c0]
    rw [if_neg c0, if_neg c0]
    by_cases c1 : 200 < v / 1000 % 1000
    · rw [if_pos c1, if_pos (show wi (nI (v / 1000 % 1000)) 0 200 = 0 from (wi_n0 (b := 200) (by omega) (by decide)).mpr c1)]
    rw [if_neg c1, if_neg (show ¬ wi (nI (v / 1000 % 1000)) 0 200 = 0 from fun q => c1 ((wi_n0 (b := 200) (by omega) (by decide)).mp q))]
    by_cases c2 : 3 ≤ v / 100 % 10
    · rw [if_pos c2, if_pos (show wi (nI (v / 100 % 10)) 0 2 = 0 from (wi_n0 (b := 2) (by omega) (by decide)).mpr (by omega))]
    rw [if_neg c2, if_neg (show ¬ wi (nI (v / 100 % 10)) 0 2 = 0 from fun q => by have := (wi_n0 (m := v / 100 % 10) (b := 2) (by omega) (by decide)).mp q; omega)]
    by_cases c3 : 5 < v / 10 % 10
    · rw [if_pos c3, if_pos (show wi (nI (v / 10 % 10)) 0 5 = 0 from (wi_n0 (b := 5) (by omega) (by decide)).mpr c3)]
    rw [if_neg c3, if_neg (show ¬ wi (nI (v / 10 % 10)) 0 5 = 0 from fun q => c3 ((wi_n0 (b := 5) (by omega) (by decide)).mp q))]
    by_cases c4 : v % 10 ≤ 5
    · rw [if_pos c4, if_neg (show ¬ wi (nI (v % 10)) 0 5 = 0 from fun q => by have := (wi_n0 (m := v % 10) (b := 5) (by omega) (by decide)).mp q; omega), if_neg (show ¬ n = 12 by omega)]
    · rw [if_neg c4, if_pos (show wi (nI (v % 10)) 0 5 = 0 from (wi_n0 (b := 5) (by omega) (by decide)).mpr (by omega))]
theorem jobW_pos {x b sp : Int32} {nw n : Nat} (h : ¬ jobW x b sp nw n = 0) : ∃ v, v < 2 ^ 31 ∧ x = nI v := by
  by_cases hx : x < 0
  · rw [jobW, if_pos hx] at h; exact absurd rfl h
  · exact nI_of hx
theorem jobW_12 {x b sp : Int32} {nw : Nat} : jobW x b sp nw 12 = 0 := by
  unfold jobW jobK
  split
  · rfl
  · repeat' split
    all_goals first | rfl | (rename_i h; exact absurd rfl h)
theorem teX_new {v : Nat} {b sp : Int32} {nw : Nat} (hv : v < 2 ^ 31) : teX (nI v) b sp (nI nw) = teFs (newRow (v / 1000000) (v / 1000 % 1000) (v / 100 % 10) (v / 10 % 10) (v % 10) b sp nw) := by
  have a0 : nI v / 1000000 = nI (v / 1000000) := pk_div hv (d := 1000000) (by decide) (by decide)
  have a1 : nI v / 1000 = nI (v / 1000) := pk_div hv (d := 1000) (by decide) (by decide)
  have a2 : nI v / 100 = nI (v / 100) := pk_div hv (d := 100) (by decide) (by decide)
  have a3 : nI v / 10 = nI (v / 10) := pk_div hv (d := 10) (by decide) (by decide)
  have b1 : nI v / 1000 - nI v / 1000 / 1000 * 1000 = nI (v / 1000 % 1000) := by rw [a1]; exact pk_rem (d := 1000) (by omega) (by decide) (by decide)
  have b2 : nI v / 100 - nI v / 100 / 10 * 10 = nI (v / 100 % 10) := by rw [a2]; exact pk_rem (d := 10) (by omega) (by decide) (by decide)
  have b3 : nI v / 10 - nI v / 10 / 10 * 10 = nI (v / 10 % 10) := by rw [a3]; exact pk_rem (d := 10) (by omega) (by decide) (by decide)
  have b4 : nI v - nI v / 10 * 10 = nI (v % 10) := pk_rem (d := 10) hv (by decide) (by decide)
  rw [teX, b1, b2, b3, b4, a0]
  rfl
/-- the desk's world while a job comes: the array of jobs and the count are ahead of the pool -/
def wCj (cI cL cO : ClassId) (o : Nat) (q ja ta : Nat → Nat) (jf : Nat → Option Nat) (n n2 nw : Nat) (full : Int32) (pr : Nat → Int32) (R : Nat → Nat → Int32) (L : Nat) (kn : Int32) (lp ch : Nat → Int32) (me : Nat → Int64) (ru wo : Nat → Int32) (mb : Nat → Int64) (lf : Nat → Int32) : va_W :=
  [(o, .inr (5, [.ref (q 0), .ref (q 2), .ref (q 3), .ref (q 10), .int (nI n2), .int (nI nw)])), (q 0, .inr (3, [.ref (q 1), .int full])), (q 1, .inl (cI, 600, .inl pr)), (q 2, .inl (cO, 12, .inr (.inr (.inr (.inr jf))))),
   (q 3, .inr (2, [.int (nI L), .int kn, .ref (q 0), .ref (q 4), .ref (q 5), .ref (q 6), .ref (q 7), .ref (q 8), .ref (q 9)])), (q 4, .inl (cI, 6, .inl lp)), (q 5, .inl (cI, 36, .inl ch)), (q 6, .inl (cL, 1014, .inr (.inl me))), (q 7, .inl (cI, 1014, .inl ru)), (q 8, .inl (cI, 1014, .inl wo)), (q 9, .inl (cL, 1014, .inr (.inl mb))), (q 10, .inr (0, [.ref (q 0), .ref (q 11)])), (q 11, .inl (cI, 900, .inl lf))] ++ (jP ja ta R n ++ tP ta R n)
set_option maxHeartbeats 4000000 in
set_option maxRecDepth 100000 in
theorem c_X6_job (l : Launch) (D : va_G) (cI cL cZ cO : ClassId) (sz : Nat) (o : Nat) (q ja ta : Nat → Nat) (n nw : Nat) (full : Int32) (pr : Nat → Int32) (R : Nat → Nat → Int32) (L : Nat) (kn : Int32) (lp ch : Nat → Int32) (me : Nat → Int64) (ru wo : Nat → Int32) (mb : Nat → Int64) (lf : Nat → Int32) (x b sp : Int32) (hn : n ≤ 12) : Met l yX6_job wsX6_job ({ frames := 2, cells := 2, slots := 24, locals := 42 } : Room) (va_Pc [.ref o, .int x, .int b, .int sp] (Rw D cI cL cZ cO (wC cI cL cO o q ja ta n nw full pr R L kn lp ch me ru wo mb lf) sz)) (va_Qi (fun (r : Int32) (u : (Nat → Nat) × (Nat → Nat)) => r = jobV x b sp nw n) (fun (u : (Nat → Nat) × (Nat → Nat)) => Wo D (va_A (wC cI cL cO o q ja ta n nw full pr R L kn lp ch me ru wo mb lf) sz) (wC cI cL cO o q u.1 u.2 (jobJ x b sp nw n) nw full pr (jobR R x b sp nw n) L kn lp ch me ru wo mb lf)) (va_A (wC cI cL cO o q ja ta n nw full pr R L kn lp ch me ru wo mb lf) sz)) 2 24 (va_A (wC cI cL cO o q ja ta n nw full pr R L kn lp ch me ru wo mb lf) sz) := by
  refine Met.ofW (cc := cX6_job) (maxL := 6) (ret := (some .int)) (by decide) rfl ?_
  intro p e s m args below meth c s₁ B hml hv
  obtain ⟨rfl, hsz, hP, hO, hD0⟩ := hv
  have hx := B.exec
  have hb := B.bytes
  have hr := B.returns
  have hts := atoms_spec (ws := wsX6_job) B.pre
  have hown : s.vm.findClass RX6 = some m.cls := findClass_of_methodNamed B.named
  have hlocks := B.notSynchronized
  have hK := hO.1
  subst hsz
  have hD := hD0.self (sz := s.heap.size)
  generalize hAe : va_A (wC cI cL cO o q ja ta n nw full pr R L kn lp ch me ru wo mb lf) s.heap.size = A at hD ⊢
  have hA : ∀ q : Nat, s.heap.size ≤ q → A q := fun q h => by rw [← hAe]; exact Or.inr h
  have hS : va_S A s.heap s.heap [] := va_S.rf
  have hl := lv_entry ([.ref o, .int x, .int b, .int sp]) (n := 6) (Nat.le_of_ble_eq_true rfl)
  rw [lg_entry_eq]
  generalize (lg_sl ([.ref o, .int x, .int b, .int sp]) ++ List.replicate (6 - (lg_sl ([.ref o, .int x, .int b, .int sp])).length) Slot.unset).toArray = ls at hl ⊢
  have hl : lv_has ls 6 [(0, .ref o), (1, .int x), (2, .int b), (3, .int sp)] := hl
  generalize hQQ : MQ below _ _ s _ _ _ = QQ
  refine lv_aload_n hx hb dX6_job_0 rfl (lv_at hl 0 rfl) ?_
  refine va_get (D := D) (cl := vwCl) (ci := 5) (v := .int (nI n)) (C := RX6) (T := TX6) (N := 6) hx hb hts (fun _ h => List.mem_cons_of_mem _ (List.mem_append_left _ (List.mem_append_left _ (List.mem_append_right _ h)))) hown hK hP 0 rfl rfl 4 (by decide) (hts (.fieldLink RX6 50 "CheapHours" "jobCount" "I") (List.mem_of_getElem? (i := 1) rfl)) (fun _ h9 => h9) rfl dX6_job_1 ?_
  refine lv_istore (lv' := [(4, .int (nI n)), (0, .ref o), (1, .int x), (2, .int b), (3, .int sp)]) hx hb dX6_job_4 hl (by decide) rfl (fun ls hl => ?_)
  refine lv_iload hx hb dX6_job_6 (lv_at hl 0 rfl) ?_
  refine lv_iconst (v := 0) hx hb dX6_job_8 (by decide) ?_
  refine lv_aload_n hx hb dX6_job_9 rfl (lv_at hl 1 rfl) ?_
  refine va_get (D := D) (cl := vwCl) (ci := 5) (v := .ref (q 2)) (C := RX6) (T := TX6) (N := 6) hx hb hts (fun _ h => List.mem_cons_of_mem _ (List.mem_append_left _ (List.mem_append_left _ (List.mem_append_right _ h)))) hown hK hP 0 rfl rfl 1 (by decide) (hts (.fieldLink RX6 18 "CheapHours" "jobs" "[LCheapHours$Job;") (List.mem_of_getElem? (i := 2) rfl)) (fun _ h9 => h9) rfl dX6_job_10 ?_
  refine va_alen (D := D) (cl := vwCl) hx hb hK hP 3 3 rfl rfl (v := 12) (show Int32.ofNat 12 = 12 from rfl) dX6_job_13 ?_
  refine lv_iconst (v := 1) hx hb dX6_job_14 (by decide) ?_
  refine lv_isub hx hb dX6_job_15 ?_
  refine lv_seti (v := 11) (by decide) ?_
  refine roSi (As := [.int (nI n), .int 0, .int 11]) (rest := []) ⟨hx, hb, hml, hown, hts⟩ (c_X6_within l D cI cL cZ cO (nI n) 0 11 ) (va_cwS 3 hts gX6_job_X6_within rfl rfl rfl (by decide +kernel) ⟨Nat.le_of_ble_eq_true rfl, Nat.le_of_ble_eq_true rfl⟩) hO (fun k q h => by simp at h) rfl hl.1 rfl (Nat.le_of_ble_eq_true rfl) dX6_job_16 ⟨Nat.le_of_ble_eq_true rfl, Nat.le_of_ble_eq_true rfl⟩ (fun r_16 e_16 => ?_)
  obtain rfl : r_16 = wi (nI n) 0 11 := e_16
  refine lv_if_ne (tgt := 24) hx hb dX6_job_19 (by decide) (fun c_19 => ?_) (fun c_19 => ?_)
  · skip
    have hn11 : n ≤ 11 := Nat.le_of_not_lt (fun q9 => c_19 ((wi_n0 (m := n) (b := 11) (by omega) (by decide)).mpr q9))
    refine va_new (ci := 4) (fs := [.int 0, .int 0, .int 0, .int 0, .int 0, .int 0, .int 0, .int 0]) (C := RX5) (T := TX5) (N := 8) hx hb hts (fun _ h => List.mem_cons_of_mem _ (List.mem_append_left _ (List.mem_append_right _ h))) tyX5 tyX5_ok hown (hts (.classLink RX6 59 RX5) (List.mem_of_getElem? (i := 3) rfl)) (hts (.instantiable RX5 8) (List.mem_of_getElem? (i := 4) rfl)) (hts (.initialized RX5) (List.mem_of_getElem? (i := 5) rfl)) hK hP hD hS hA rfl (fun j hj => by rcases (show j = 0 ∨ j = 1 ∨ j = 2 ∨ j = 3 ∨ j = 4 ∨ j = 5 ∨ j = 6 ∨ j = 7 by omega) with rfl | rfl | rfl | rfl | rfl | rfl | rfl | rfl <;> rfl) (Nat.le_of_ble_eq_true rfl) (Nat.le_of_ble_eq_true rfl) dX6_job_24 (fun q24 H hP hD hS => ?_)
    have hP := rotP hP
    have hD := rotD hD
    have hP : va_P D vwCl ((q24, .inr (4, [.int 0, .int 0, .int 0, .int 0, .int 0, .int 0, .int 0, .int 0])) :: wC cI cL cO o q ja ta n nw full pr R L kn lp ch me ru wo mb lf) H := hP
    have hD : va_D A ((q24, .inr (4, [.int 0, .int 0, .int 0, .int 0, .int 0, .int 0, .int 0, .int 0])) :: wC cI cL cO o q ja ta n nw full pr R L kn lp ch me ru wo mb lf) := hD
    refine lv_dup hx hb dX6_job_27 rfl ?_
    refine lv_iload_n hx hb dX6_job_28 rfl (lv_at hl 2 rfl) ?_
    refine lv_iload_n hx hb dX6_job_29 rfl (lv_at hl 3 rfl) ?_
    refine lv_iload_n hx hb dX6_job_30 rfl (lv_at hl 4 rfl) ?_
    refine lv_aload_n hx hb dX6_job_31 rfl (lv_at hl 1 rfl) ?_
    refine va_get (D := D) (cl := vwCl) (ci := 5) (v := .int (nI nw)) (C := RX6) (T := TX6) (N := 6) hx hb hts (fun _ h => List.mem_cons_of_mem _ (List.mem_append_left _ (List.mem_append_left _ (List.mem_append_right _ h)))) hown hK hP 1 rfl rfl 5 (by decide) (hts (.fieldLink RX6 42 "CheapHours" "now" "I") (List.mem_of_getElem? (i := 6) rfl)) (fun _ h9 => h9) rfl dX6_job_32 ?_
    refine rwIvX (As := [.int x, .int b, .int sp, .int (nI nw)]) (rest := [.ref q24]) (w := (q24, .inr (4, [.int 0, .int 0, .int 0, .int 0, .int 0, .int 0, .int 0, .int 0])) :: wC cI cL cO o q ja ta n nw full pr R L kn lp ch me ru wo mb lf) (wc := [(q24, .inr (4, [.int 0, .int 0, .int 0, .int 0, .int 0, .int 0, .int 0, .int 0]))]) (x0 := fun _ => (q24, .inr (4, teX x b sp (nI nw)))) 0 (fun c9 h9 => by rcases List.mem_singleton.mp h9 with rfl; exact ⟨0, rfl⟩) rfl (fun _ => rfl) (fun _ => List.mem_singleton.mpr rfl) (fun _ c9 h9 hne => by rcases List.mem_singleton.mp h9 with rfl; exact absurd rfl hne) ⟨hx, hb, hml, hown, hts⟩ (c_X5_init l D cI cL cZ cO H.size q24 x b sp (nI nw)) (cwI 4 hts gX6_job_X5_init rfl rfl rfl (hts (.initialized RX5) (List.mem_of_getElem? (i := 5) rfl)) (hts (.methodLink RX6 61 yX5_init) (List.mem_of_getElem? (i := 14) rfl)) (hts (.instanceMethod yX5_init) (List.mem_of_getElem? (i := 15) rfl)) rfl (by decide +kernel) ⟨Nat.le_of_ble_eq_true rfl, Nat.le_of_ble_eq_true rfl⟩) hO hP hD (hP.sub [0] rfl) (hD.sub [0] (by decide) rfl) hS hA rfl hl.1 rfl (Nat.le_of_ble_eq_true rfl) dX6_job_35 ⟨Nat.le_of_ble_eq_true rfl, Nat.le_of_ble_eq_true rfl⟩ (fun u_35 H locs e_35 hP hD hS => ?_)
    have hP : va_P D vwCl ((q24, .inr (4, teX x b sp (nI nw))) :: wC cI cL cO o q ja ta n nw full pr R L kn lp ch me ru wo mb lf) H := hP
    have hD : va_D A ((q24, .inr (4, teX x b sp (nI nw))) :: wC cI cL cO o q ja ta n nw full pr R L kn lp ch me ru wo mb lf) := hD
    refine lv_astore (lv' := [(5, .ref q24), (4, .int (nI n)), (0, .ref o), (1, .int x), (2, .int b), (3, .int sp)]) hx hb dX6_job_38 hl (by decide) rfl (fun ls hl => ?_)
    refine lv_aload hx hb dX6_job_40 (lv_at hl 0 rfl) ?_
    refine roVi (As := []) (rest := []) ⟨hx, hb, hml, hown, hts⟩ (c_X5_canBe l D cI cL cZ cO q24 (x / 1000000) (x / 1000 - x / 1000 / 1000 * 1000) (x / 100 - x / 100 / 10 * 10) (x / 10 - x / 10 / 10 * 10) (x - x / 10 * 10) (b) (sp) (nI nw) ) (cwV 0 hts gX6_job_X5_canBe rfl rfl rfl (by decide +kernel) ⟨Nat.le_of_ble_eq_true rfl, Nat.le_of_ble_eq_true rfl⟩) hO (hP.sub (ws' := [(q24, .inr (4, [.int (x / 1000000), .int (x / 1000 - x / 1000 / 1000 * 1000), .int (x / 100 - x / 100 / 10 * 10), .int (x / 10 - x / 10 / 10 * 10), .int (x - x / 10 * 10), .int (b), .int (sp), .int (nI nw)]))]) [0] rfl) (va_recv hK hP (ci := 4) (q0 := 0) rfl rfl) rfl hl.1 rfl (Nat.le_of_ble_eq_true rfl) dX6_job_42 ⟨Nat.le_of_ble_eq_true rfl, Nat.le_of_ble_eq_true rfl⟩ (fun r_42 e_42 => ?_)
    obtain rfl : r_42 = cbV (x / 1000000) (x / 1000 - x / 1000 / 1000 * 1000) (x / 100 - x / 100 / 10 * 10) (x / 10 - x / 10 / 10 * 10) (x - x / 10 * 10) (b) (sp) (nI nw) := e_42
    refine lv_if_ne (tgt := 50) hx hb dX6_job_45 (by decide) (fun c_45 => ?_) (fun c_45 => ?_)
    · skip
      refine lv_aload_n hx hb dX6_job_50 rfl (lv_at hl 2 rfl) ?_
      refine va_get (D := D) (cl := vwCl) (ci := 5) (v := .ref (q 2)) (C := RX6) (T := TX6) (N := 6) hx hb hts (fun _ h => List.mem_cons_of_mem _ (List.mem_append_left _ (List.mem_append_left _ (List.mem_append_right _ h)))) hown hK hP 1 rfl rfl 1 (by decide) (hts (.fieldLink RX6 18 "CheapHours" "jobs" "[LCheapHours$Job;") (List.mem_of_getElem? (i := 2) rfl)) (fun _ h9 => h9) rfl dX6_job_51 ?_
      refine lv_iload hx hb dX6_job_54 (lv_at hl 1 rfl) ?_
      refine va_new (ci := 1) (fs := [.null, .int 0, .int 0, .int 0, .int 0, .int 0, .int 0, .int 0, .int 0, .int 0, .int 0, .int 0, .int 0, .int 0, .int 0, .int 0]) (C := RX1) (T := TX1) (N := 16) hx hb hts (fun _ h => List.mem_cons_of_mem _ (List.mem_append_right _ h)) tyX1 tyX1_ok hown (hts (.classLink RX6 16 RX1) (List.mem_of_getElem? (i := 7) rfl)) (hts (.instantiable RX1 16) (List.mem_of_getElem? (i := 8) rfl)) (hts (.initialized RX1) (List.mem_of_getElem? (i := 9) rfl)) hK hP hD hS hA rfl (fun j hj => by rcases (show j = 0 ∨ j = 1 ∨ j = 2 ∨ j = 3 ∨ j = 4 ∨ j = 5 ∨ j = 6 ∨ j = 7 ∨ j = 8 ∨ j = 9 ∨ j = 10 ∨ j = 11 ∨ j = 12 ∨ j = 13 ∨ j = 14 ∨ j = 15 by omega) with rfl | rfl | rfl | rfl | rfl | rfl | rfl | rfl | rfl | rfl | rfl | rfl | rfl | rfl | rfl | rfl <;> rfl) (Nat.le_of_ble_eq_true rfl) (Nat.le_of_ble_eq_true rfl) dX6_job_56 (fun q56 H hP hD hS => ?_)
      have hP := rotP hP
      have hD := rotD hD
      have hP : va_P D vwCl ((q56, .inr (1, [.null, .int 0, .int 0, .int 0, .int 0, .int 0, .int 0, .int 0, .int 0, .int 0, .int 0, .int 0, .int 0, .int 0, .int 0, .int 0])) :: (q24, .inr (4, teX x b sp (nI nw))) :: wC cI cL cO o q ja ta n nw full pr R L kn lp ch me ru wo mb lf) H := hP
      have hD : va_D A ((q56, .inr (1, [.null, .int 0, .int 0, .int 0, .int 0, .int 0, .int 0, .int 0, .int 0, .int 0, .int 0, .int 0, .int 0, .int 0, .int 0, .int 0])) :: (q24, .inr (4, teX x b sp (nI nw))) :: wC cI cL cO o q ja ta n nw full pr R L kn lp ch me ru wo mb lf) := hD
      refine lv_dup hx hb dX6_job_59 rfl ?_
      refine lv_aload hx hb dX6_job_60 (lv_at hl 0 rfl) ?_
      refine rwIvX (As := [.ref q24]) (rest := [.ref q56, .int (nI n), .ref (q 2)]) (w := (q56, .inr (1, [.null, .int 0, .int 0, .int 0, .int 0, .int 0, .int 0, .int 0, .int 0, .int 0, .int 0, .int 0, .int 0, .int 0, .int 0, .int 0])) :: (q24, .inr (4, teX x b sp (nI nw))) :: wC cI cL cO o q ja ta n nw full pr R L kn lp ch me ru wo mb lf) (wc := [(q56, .inr (1, [.null, .int 0, .int 0, .int 0, .int 0, .int 0, .int 0, .int 0, .int 0, .int 0, .int 0, .int 0, .int 0, .int 0, .int 0, .int 0]))]) (x0 := fun _ => (q56, .inr (1, jobFs q24 (va_up (fun _ => 0) 18 (-1))))) 0 (fun c9 h9 => by rcases List.mem_singleton.mp h9 with rfl; exact ⟨0, rfl⟩) rfl (fun _ => rfl) (fun _ => List.mem_singleton.mpr rfl) (fun _ c9 h9 hne => by rcases List.mem_singleton.mp h9 with rfl; exact absurd rfl hne) ⟨hx, hb, hml, hown, hts⟩ (c_X1_init l D cI cL cZ cO H.size q56 q24) (cwI 1 hts gX6_job_X1_init rfl rfl rfl (hts (.initialized RX1) (List.mem_of_getElem? (i := 9) rfl)) (hts (.methodLink RX6 67 yX1_init) (List.mem_of_getElem? (i := 33) rfl)) (hts (.instanceMethod yX1_init) (List.mem_of_getElem? (i := 34) rfl)) rfl (by decide +kernel) ⟨Nat.le_of_ble_eq_true rfl, Nat.le_of_ble_eq_true rfl⟩) hO hP hD (hP.sub [0] rfl) (hD.sub [0] (by decide) rfl) hS hA rfl hl.1 rfl (Nat.le_of_ble_eq_true rfl) dX6_job_62 ⟨Nat.le_of_ble_eq_true rfl, Nat.le_of_ble_eq_true rfl⟩ (fun u_62 H locs e_62 hP hD hS => ?_)
      have hP : va_P D vwCl ((q56, .inr (1, jobFs q24 (va_up (fun _ => 0) 18 (-1)))) :: (q24, .inr (4, teX x b sp (nI nw))) :: wC cI cL cO o q ja ta n nw full pr R L kn lp ch me ru wo mb lf) H := hP
      have hD : va_D A ((q56, .inr (1, jobFs q24 (va_up (fun _ => 0) 18 (-1)))) :: (q24, .inr (4, teX x b sp (nI nw))) :: wC cI cL cO o q ja ta n nw full pr R L kn lp ch me ru wo mb lf) := hD
      refine va_astq (D := D) hx hb hK hP hD hS 5 3 0 1 (r := (RX1, TX1, 16)) (f := (jRef ja n)) rfl rfl rfl rfl (i := (nI n)) (vp_in_nI (n := n) (by omega) (by decide)) dX6_job_65 (fun H locs hP hD hS => ?_)
      have hP : va_P D vwCl ((q56, .inr (1, jobFs q24 (va_up (fun _ => 0) 18 (-1)))) :: (q24, .inr (4, teX x b sp (nI nw))) :: wCj cI cL cO o q ja ta (va_up (jRef ja n) ((nI n)).toNatClampNeg (some q56)) n n nw full pr R L kn lp ch me ru wo mb lf) H := hP
      have hD : va_D A ((q56, .inr (1, jobFs q24 (va_up (fun _ => 0) 18 (-1)))) :: (q24, .inr (4, teX x b sp (nI nw))) :: wCj cI cL cO o q ja ta (va_up (jRef ja n) ((nI n)).toNatClampNeg (some q56)) n n nw full pr R L kn lp ch me ru wo mb lf) := hD
      refine lv_aload_n hx hb dX6_job_66 rfl (lv_at hl 2 rfl) ?_
      refine lv_iload hx hb dX6_job_67 (lv_at hl 1 rfl) ?_
      refine lv_iconst (v := 1) hx hb dX6_job_69 (by decide) ?_
      refine n_iadd (x := n) (y := 1) hx hb dX6_job_70 ?_
      refine va_put (D := D) (cl := vwCl) (ci := 5) (v := .int (nI (n + 1))) (ty := .int) (C := RX6) (T := TX6) (N := 6) hx hb hts (fun _ h => List.mem_cons_of_mem _ (List.mem_append_left _ (List.mem_append_left _ (List.mem_append_right _ h)))) tyX6 tyX6_ok nmX6 hown hK hP hD hS 2 rfl rfl 4 (by decide) (hts (.fieldLink RX6 50 "CheapHours" "jobCount" "I") (List.mem_of_getElem? (i := 1) rfl)) (fun _ h9 => h9) rfl (by decide +kernel) rfl rfl (Nat.le_of_ble_eq_true rfl) dX6_job_71 (fun H locs hP hD hS => ?_)
      have hP : va_P D vwCl ((q56, .inr (1, jobFs q24 (va_up (fun _ => 0) 18 (-1)))) :: (q24, .inr (4, teX x b sp (nI nw))) :: wCj cI cL cO o q ja ta (va_up (jRef ja n) ((nI n)).toNatClampNeg (some q56)) n (n + 1) nw full pr R L kn lp ch me ru wo mb lf) H := hP
      have hD : va_D A ((q56, .inr (1, jobFs q24 (va_up (fun _ => 0) 18 (-1)))) :: (q24, .inr (4, teX x b sp (nI nw))) :: wCj cI cL cO o q ja ta (va_up (jRef ja n) ((nI n)).toNatClampNeg (some q56)) n (n + 1) nw full pr R L kn lp ch me ru wo mb lf) := hD
      refine lv_iload hx hb dX6_job_74 (lv_at hl 1 rfl) ?_
      have hJ9 : ¬ jobW x b sp nw n = 0 := by rw [← cb_eq (by omega)]; exact c_45
      obtain ⟨v, hv, rfl⟩ := jobW_pos hJ9
      have h1 : jobJ (nI v) b sp nw n = n + 1 := if_neg hJ9
      have h2 : jobR R (nI v) b sp nw n = va_up R n (newRow (v / 1000000) (v / 1000 % 1000) (v / 100 % 10) (v / 10 % 10) (v % 10) b sp nw) := by rw [jobR, if_neg hJ9, nI_clamp hv]
      have hw9 : wC cI cL cO o q (va_up ja n q56) (va_up ta n q24) (n + 1) nw full pr (va_up R n (newRow (v / 1000000) (v / 1000 % 1000) (v / 100 % 10) (v / 10 % 10) (v % 10) b sp nw)) L kn lp ch me ru wo mb lf = wF cI cL cO o q (va_up ja n q56) (n + 1) nw full pr L kn lp ch me ru wo mb lf ++ ((jP ja ta R n ++ [(q56, .inr (1, jobFs q24 (newRow (v / 1000000) (v / 1000 % 1000) (v / 100 % 10) (v / 10 % 10) (v % 10) b sp nw)))]) ++ (tP ta R n ++ [(q24, .inr (4, teFs (newRow (v / 1000000) (v / 1000 % 1000) (v / 100 % 10) (v / 10 % 10) (v % 10) b sp nw)))])) := by rw [wC, jP_up, tP_up]
      have hP : va_P D vwCl (wC cI cL cO o q (va_up ja n q56) (va_up ta n q24) (n + 1) nw full pr (va_up R n (newRow (v / 1000000) (v / 1000 % 1000) (v / 100 % 10) (v / 10 % 10) (v % 10) b sp nw)) L kn lp ch me ru wo mb lf) H := by
        rw [hw9]
        rw [nI_clamp (by omega), jRef_up, teX_new hv] at hP
        exact va_P_mem hP (fun c9 h9 => perm_grow.mem_iff.mpr h9)
      have hD : va_D A (wC cI cL cO o q (va_up ja n q56) (va_up ta n q24) (n + 1) nw full pr (va_up R n (newRow (v / 1000000) (v / 1000 % 1000) (v / 100 % 10) (v / 10 % 10) (v % 10) b sp nw)) L kn lp ch me ru wo mb lf) := by
        rw [hw9]
        rw [nI_clamp (by omega), jRef_up, teX_new hv] at hD
        exact va_D_perm hD perm_grow
      have hw8 : wC cI cL cO o q (va_up ja n q56) (va_up ta n q24) (jobJ (nI v) b sp nw n) nw full pr (jobR R (nI v) b sp nw n) L kn lp ch me ru wo mb lf = wC cI cL cO o q (va_up ja n q56) (va_up ta n q24) (n + 1) nw full pr (va_up R n (newRow (v / 1000000) (v / 1000 % 1000) (v / 100 % 10) (v / 10 % 10) (v % 10) b sp nw)) L kn lp ch me ru wo mb lf := by rw [h1, h2]
      rw [← hw8] at hP hD
      rw [← hQQ]
      refine W.widen (k := 2) (n := 24) (by decide) (by decide) ?_
      exact W.iret (v := (nI n)) hx hb hr (fun t9 ht9 hW9 => ⟨⟨_, (va_up ja n q56, va_up ta n q24), rfl, (if_neg hJ9).symm, by rw [ht9]; exact hP, hD⟩, hS.F ht9⟩) hS.2.2 dX6_job_76
    · skip
      refine lv_iconst (v := (-1)) hx hb dX6_job_48 (by decide) ?_
      have hz : jobW x b sp nw n = 0 := by rw [← cb_eq (by omega)]; exact c_45
      have h1 : jobJ x b sp nw n = n := if_pos hz
      have h2 : jobR R x b sp nw n = R := if_pos hz
      replace hP := tlP hP
      replace hD := tlD hD
      have hw9 : wC cI cL cO o q ja ta (jobJ x b sp nw n) nw full pr (jobR R x b sp nw n) L kn lp ch me ru wo mb lf = wC cI cL cO o q ja ta n nw full pr R L kn lp ch me ru wo mb lf := by rw [h1, h2]
      rw [← hw9] at hP hD
      rw [← hQQ]
      refine W.widen (k := 2) (n := 24) (by decide) (by decide) ?_
      exact W.iret (v := (-1)) hx hb hr (fun t9 ht9 hW9 => ⟨⟨_, (ja, ta), rfl, (if_pos hz).symm, by rw [ht9]; exact hP, hD⟩, hS.F ht9⟩) hS.2.2 dX6_job_49
  · skip
    have hn12 : n = 12 := by have := (wi_n0 (m := n) (b := 11) (by omega) (by decide)).mp c_19; omega
    refine lv_iconst (v := (-1)) hx hb dX6_job_22 (by decide) ?_
    have hz : jobW x b sp nw n = 0 := by rw [hn12]; exact jobW_12
    have h1 : jobJ x b sp nw n = n := if_pos hz
    have h2 : jobR R x b sp nw n = R := if_pos hz
    have hw9 : wC cI cL cO o q ja ta (jobJ x b sp nw n) nw full pr (jobR R x b sp nw n) L kn lp ch me ru wo mb lf = wC cI cL cO o q ja ta n nw full pr R L kn lp ch me ru wo mb lf := by rw [h1, h2]
    rw [← hw9] at hP hD
    rw [← hQQ]
    refine W.widen (k := 2) (n := 24) (by decide) (by decide) ?_
    exact W.iret (v := (-1)) hx hb hr (fun t9 ht9 hW9 => ⟨⟨_, (ja, ta), rfl, (if_pos hz).symm, by rw [ht9]; exact hP, hD⟩, hS.F ht9⟩) hS.2.2 dX6_job_23
