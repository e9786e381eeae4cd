/-! BASE: what every contract here says of the tables, and the rows of a call in this claim's own forms. -/
def tyL (cI cL cZ cO : ClassId) : List (ClassId × FieldType) := [(cI, .int), (cL, .long), (cZ, .boolean), (cO, .object RX1)]
/-- the private 'within' of CheapHours, called by its nest mates; arrays of jobs -/
def Nws (U : State) : Prop := va_Nw (.methodLinkNest RX4 29 yX6_within RX6) U ∧ va_Nw (.methodLinkNest RX5 37 yX6_within RX6) U ∧ va_Nw (.methodLinkNest RX2 7 yX6_within RX6) U ∧ va_Nw (.methodLinkNest RX3 47 yX6_within RX6) U ∧ va_Nw (.methodLinkNest RX0 78 yX6_within RX6) U ∧ va_AO RX1 U
def Okk (D : va_G) (cI cL cZ cO : ClassId) (U : State) : Prop := va_K D vwCl (tyL cI cL cZ cO) U ∧ Nws U
theorem Okk.warm {D : va_G} {cI cL cZ cO : ClassId} {s U : State} (h : Okk D cI cL cZ cO s) (hW : s.WarmedH U.vm) : Okk D cI cL cZ cO U :=
  ⟨va_K.moved hW.alike h.1, va_Nw.warmM hW h.2.1, va_Nw.warmM hW h.2.2.1, va_Nw.warmM hW h.2.2.2.1, va_Nw.warmM hW h.2.2.2.2.1, va_Nw.warmM hW h.2.2.2.2.2.1, va_AO.moved hW.alike h.2.2.2.2.2.2⟩
theorem Okk.call {D : va_G} {cI cL cZ cO : ClassId} {U : State} (h : Okk D cI cL cZ cO U) (g : JFrame) (mk : MethodId) (a : Array Value) : Okk D cI cL cZ cO (U.calling g mk a) :=
  ⟨va_K.moved (u := U) (U := U.calling g mk a) (Vm.Alike.refl U.vm) h.1, va_Nw.same (u := U) rfl rfl h.2.1, va_Nw.same (u := U) rfl rfl h.2.2.1, va_Nw.same (u := U) rfl rfl h.2.2.2.1, va_Nw.same (u := U) rfl rfl h.2.2.2.2.1, va_Nw.same (u := U) rfl rfl h.2.2.2.2.2.1, va_AO.moved (u := U) (U := U.calling g mk a) (Vm.Alike.refl U.vm) h.2.2.2.2.2.2⟩
/-- the start of a method that only reads; of one that writes -/
def Ro (D : va_G) (cI cL cZ cO : ClassId) (w : va_W) (U : State) : Prop := va_P D vwCl w U.heap ∧ Okk D cI cL cZ cO U
def Rw (D : va_G) (cI cL cZ cO : ClassId) (w : va_W) (sz : Nat) (U : State) : Prop := U.heap.size = sz ∧ va_P D vwCl w U.heap ∧ Okk D cI cL cZ cO U ∧ va_D (fun _ => True) w
/-- the world behind a method that writes -/
def Wo (D : va_G) (A : Nat → Prop) (w : va_W) (t : State) : Prop := va_P D vwCl w t.heap ∧ va_D A w
theorem Ro.blind {D : va_G} {cI cL cZ cO : ClassId} {w : va_W} {av : List Value} : FrameBlind (va_Pc av (Ro D cI cL cZ cO w)) := fun _ _ g mk h => ⟨h.1, h.2.1, h.2.2.call g mk _⟩
theorem Rw.blind {D : va_G} {cI cL cZ cO : ClassId} {w : va_W} {sz : Nat} {av : List Value} : FrameBlind (va_Pc av (Rw D cI cL cZ cO w sz)) := fun _ _ g mk h => ⟨h.1, h.2.1, h.2.2.1, h.2.2.2.1.call g mk _, h.2.2.2.2⟩
section BaseCalls
variable {p : Program} {l : Launch} {e : Env} {R : Room} {s : State} {m : MethodId} {args : Array Value} {below : List Frame} {meth : Method} {c : Code} {H : Heap} {locs : List Loc} {cells slots : Nat} {Q : State → Prop}
variable {pc : Nat} {ls : Array Slot} {rest st0 As : List Value} {A0 : Nat → Prop} {H0 : Heap} {mc ms : Nat}
variable {y : MethodName} {bytes cc : ByteArray} {maxL nL n index : Nat} {ret : Option FieldType} {wy : List Cond} {rm : Room} {Ts : List Cond} {own C host : String} {b : Addr} {D : va_G} {cI cL cZ cO : ClassId} {w : va_W}
abbrev Recv (s : State) (H : Heap) (C : String) (b : Addr) : Prop := ∃ cellB : Cell, H[b]? = some cellB ∧ cellB.vm.isStatics = false ∧ s.vm.findClass C = some cellB.cls
theorem roVi {post : Int32 → Prop} (S : CallFix p m c cc nL s args Ts own) (hM : Met l y wy rm (va_Pc (.ref b :: As) (Ro D cI cL cZ cO w)) (vp_Si post) 0 0 (fun _ => False)) (cw : CallW R s args own C index y bytes maxL ret wy rm 0 0 n) (hO : Okk D cI cL cZ cO s) (hP : va_P D vwCl w H) (hv : Recv s H C b) (hn : As.length = n) (hsize : ls.size = nL) (hst : st0 = As.reverse ++ .ref b :: rest) (hW : (rest.map fun v => v.category).sum ≤ 8) (hdg : decode cc pc = .ok (.invokevirtual index, 3)) (hcl : cells ≤ R.cells ∧ slots ≤ R.slots)
    (kk : ∀ r : Int32, post r → W p l e R s m args below meth c H locs cells slots Q (F0 m (pc + 3) ls (.int r :: rest))) : W p l e R s m args below meth c H locs cells slots Q (F0 m pc ls st0) :=
  vp_callSi (W.runV (g := F0 m pc ls st0) S hM cw ⟨Ro.blind, hv, fun U hU hW => ⟨rfl, by rw [hU]; exact hP, hO.warm hW⟩⟩ rfl hn hsize hst (lv_room hW) hdg hcl) kk
theorem roVl {post : Int64 → Prop} (S : CallFix p m c cc nL s args Ts own) (hM : Met l y wy rm (va_Pc (.ref b :: As) (Ro D cI cL cZ cO w)) (vp_Sl post) 0 0 (fun _ => False)) (cw : CallW R s args own C index y bytes maxL ret wy rm 0 0 n) (hO : Okk D cI cL cZ cO s) (hP : va_P D vwCl w H) (hv : Recv s H C b) (hn : As.length = n) (hsize : ls.size = nL) (hst : st0 = As.reverse ++ .ref b :: rest) (hW : (rest.map fun v => v.category).sum ≤ 8) (hdg : decode cc pc = .ok (.invokevirtual index, 3)) (hcl : cells ≤ R.cells ∧ slots ≤ R.slots)
    (kk : ∀ r : Int64, post r → W p l e R s m args below meth c H locs cells slots Q (F0 m (pc + 3) ls (.long r :: rest))) : W p l e R s m args below meth c H locs cells slots Q (F0 m pc ls st0) :=
  vp_callSl (W.runV (g := F0 m pc ls st0) S hM cw ⟨Ro.blind, hv, fun U hU hW => ⟨rfl, by rw [hU]; exact hP, hO.warm hW⟩⟩ rfl hn hsize hst (lv_room hW) hdg hcl) kk
theorem roVq {post : Option Nat → Prop} (S : CallFix p m c cc nL s args Ts own) (hM : Met l y wy rm (va_Pc (.ref b :: As) (Ro D cI cL cZ cO w)) (va_Sq post) 0 0 (fun _ => False)) (cw : CallW R s args own C index y bytes maxL ret wy rm 0 0 n) (hO : Okk D cI cL cZ cO s) (hP : va_P D vwCl w H) (hv : Recv s H C b) (hn : As.length = n) (hsize : ls.size = nL) (hst : st0 = As.reverse ++ .ref b :: rest) (hW : (rest.map fun v => v.category).sum ≤ 8) (hdg : decode cc pc = .ok (.invokevirtual index, 3)) (hcl : cells ≤ R.cells ∧ slots ≤ R.slots)
    (kk : ∀ r : Option Nat, post r → W p l e R s m args below meth c H locs cells slots Q (F0 m (pc + 3) ls (va_rf r :: rest))) : W p l e R s m args below meth c H locs cells slots Q (F0 m pc ls st0) :=
  va_csq (W.runV (g := F0 m pc ls st0) S hM cw ⟨Ro.blind, hv, fun U hU hW => ⟨rfl, by rw [hU]; exact hP, hO.warm hW⟩⟩ rfl hn hsize hst (lv_room hW) hdg hcl) kk
theorem roSi {post : Int32 → Prop} (S : CallFix p m c cc nL s args Ts own) (hM : Met l y wy rm (va_Pc As (Ro D cI cL cZ cO w)) (vp_Si post) 0 0 (fun _ => False)) (cw : CallB R s args own index y bytes maxL ret wy rm 0 0 n ∧ (Cond.static y).before args s = true) (hO : Okk D cI cL cZ cO s) (hP : va_P D vwCl w H) (hn : As.length = n) (hsize : ls.size = nL) (hst : st0 = As.reverse ++ rest) (hW : (rest.map fun v => v.category).sum ≤ 8) (hdg : decode cc pc = .ok (.invokestatic index, 3)) (hcl : cells ≤ R.cells ∧ slots ≤ R.slots)
    (kk : ∀ r : Int32, post r → W p l e R s m args below meth c H locs cells slots Q (F0 m (pc + 3) ls (.int r :: rest))) : W p l e R s m args below meth c H locs cells slots Q (F0 m pc ls st0) :=
  vp_callSi (W.runS (g := F0 m pc ls st0) S hM cw ⟨Ro.blind, fun U hU hW => ⟨rfl, by rw [hU]; exact hP, hO.warm hW⟩⟩ rfl hn hsize hst (lv_room hW) hdg hcl) kk
theorem roSl {post : Int64 → Prop} (S : CallFix p m c cc nL s args Ts own) (hM : Met l y wy rm (va_Pc As (Ro D cI cL cZ cO w)) (vp_Sl post) 0 0 (fun _ => False)) (cw : CallB R s args own index y bytes maxL ret wy rm 0 0 n ∧ (Cond.static y).before args s = true) (hO : Okk D cI cL cZ cO s) (hP : va_P D vwCl w H) (hn : As.length = n) (hsize : ls.size = nL) (hst : st0 = As.reverse ++ rest) (hW : (rest.map fun v => v.category).sum ≤ 8) (hdg : decode cc pc = .ok (.invokestatic index, 3)) (hcl : cells ≤ R.cells ∧ slots ≤ R.slots)
    (kk : ∀ r : Int64, post r → W p l e R s m args below meth c H locs cells slots Q (F0 m (pc + 3) ls (.long r :: rest))) : W p l e R s m args below meth c H locs cells slots Q (F0 m pc ls st0) :=
  vp_callSl (W.runS (g := F0 m pc ls st0) S hM cw ⟨Ro.blind, fun U hU hW => ⟨rfl, by rw [hU]; exact hP, hO.warm hW⟩⟩ rfl hn hsize hst (lv_room hW) hdg hcl) kk
theorem roNi {post : Int32 → Prop} (S : CallFix p m c cc nL s args Ts own) (hM : Met l y wy rm (va_Pc As (Ro D cI cL cZ cO w)) (vp_Si post) 0 0 (fun _ => False)) (cw : va_CN R s args own index y host bytes maxL ret wy rm 0 0 n ∧ (Cond.static y).before args s = true ∧ True) (hO : Okk D cI cL cZ cO s) (hP : va_P D vwCl w H) (hn : As.length = n) (hsize : ls.size = nL) (hst : st0 = As.reverse ++ rest) (hW : (rest.map fun v => v.category).sum ≤ 8) (hdg : decode cc pc = .ok (.invokestatic index, 3)) (hcl : cells ≤ R.cells ∧ slots ≤ R.slots)
    (kk : ∀ r : Int32, post r → W p l e R s m args below meth c H locs cells slots Q (F0 m (pc + 3) ls (.int r :: rest))) : W p l e R s m args below meth c H locs cells slots Q (F0 m pc ls st0) :=
  vp_callSi (va_runSN (g := F0 m pc ls st0) S hM cw ⟨Ro.blind, fun U hU hW => ⟨rfl, by rw [hU]; exact hP, hO.warm hW⟩⟩ rfl hn hsize hst (lv_room hW) hdg hcl).run kk
theorem freeAll {ws : va_W} {locs : List Loc} (hD : va_D A0 ws) (hS : va_S A0 H0 H locs) (hA : ∀ q, H0.size ≤ q → A0 q) : ∀ q, va_A ws H.size q → A0 q := by
  intro q h
  rcases h with ⟨k, e, h⟩ | h
  · exact hD.2 k _ h
  · exact hA q (Nat.le_trans hS.1 h)
theorem rwVi {S1 : Type} {post : Int32 → S1 → Prop} {Wf : S1 → va_W} (S : CallFix p m c cc nL s args Ts own) (hM : Met l y wy rm (va_Pc (.ref b :: As) (Rw D cI cL cZ cO w H.size)) (va_Qi post (fun u => Wo D (va_A w H.size) (Wf u)) (va_A w H.size)) mc ms (va_A w H.size)) (cw : CallW R s args own C index y bytes maxL ret wy rm mc ms n) (hO : Okk D cI cL cZ cO s) (hP : va_P D vwCl w H) (hD : va_D A0 w) (hS : va_S A0 H0 H locs) (hA : ∀ q, H0.size ≤ q → A0 q) (hv : Recv s H C b) (hn : As.length = n) (hsize : ls.size = nL) (hst : st0 = As.reverse ++ .ref b :: rest) (hW : (rest.map fun v => v.category).sum ≤ 8) (hdg : decode cc pc = .ok (.invokevirtual index, 3)) (hcl : cells + mc ≤ R.cells ∧ slots + ms ≤ R.slots)
    (kk : ∀ (r : Int32) (u : S1) (H1 : Heap) (locs1 : List Loc), post r u → va_P D vwCl (Wf u) H1 → va_D A0 (Wf u) → va_S A0 H0 H1 locs1 → W p l e R s m args below meth c H1 locs1 (cells + mc) (slots + ms) Q (F0 m (pc + 3) ls (.int r :: rest))) : W p l e R s m args below meth c H locs cells slots Q (F0 m pc ls st0) :=
  va_calli (va_runV (g := F0 m pc ls st0) S hM cw ⟨Rw.blind, hv, fun U hU hW => ⟨rfl, by rw [hU], by rw [hU]; exact hP, hO.warm hW, hD.weaken (fun _ _ _ _ => trivial)⟩⟩ rfl hn hsize hst (lv_room hW) hdg hcl) hS (fun q _ h => freeAll hD hS hA q h) (freeAll hD hS hA) (fun r u t H1 locs1 ht _ hw hB _ _ hS1 => kk r u H1 locs1 hw (ht ▸ hB.1) (hB.2.weaken (fun _ q _ h => freeAll hD hS hA q.1 h)) hS1)
theorem rwVl {S1 : Type} {post : Int64 → S1 → Prop} {Wf : S1 → va_W} (S : CallFix p m c cc nL s args Ts own) (hM : Met l y wy rm (va_Pc (.ref b :: As) (Rw D cI cL cZ cO w H.size)) (va_Ql post (fun u => Wo D (va_A w H.size) (Wf u)) (va_A w H.size)) mc ms (va_A w H.size)) (cw : CallW R s args own C index y bytes maxL ret wy rm mc ms n) (hO : Okk D cI cL cZ cO s) (hP : va_P D vwCl w H) (hD : va_D A0 w) (hS : va_S A0 H0 H locs) (hA : ∀ q, H0.size ≤ q → A0 q) (hv : Recv s H C b) (hn : As.length = n) (hsize : ls.size = nL) (hst : st0 = As.reverse ++ .ref b :: rest) (hW : (rest.map fun v => v.category).sum ≤ 8) (hdg : decode cc pc = .ok (.invokevirtual index, 3)) (hcl : cells + mc ≤ R.cells ∧ slots + ms ≤ R.slots)
    (kk : ∀ (r : Int64) (u : S1) (H1 : Heap) (locs1 : List Loc), post r u → va_P D vwCl (Wf u) H1 → va_D A0 (Wf u) → va_S A0 H0 H1 locs1 → W p l e R s m args below meth c H1 locs1 (cells + mc) (slots + ms) Q (F0 m (pc + 3) ls (.long r :: rest))) : W p l e R s m args below meth c H locs cells slots Q (F0 m pc ls st0) :=
  va_calll (va_runV (g := F0 m pc ls st0) S hM cw ⟨Rw.blind, hv, fun U hU hW => ⟨rfl, by rw [hU], by rw [hU]; exact hP, hO.warm hW, hD.weaken (fun _ _ _ _ => trivial)⟩⟩ rfl hn hsize hst (lv_room hW) hdg hcl) hS (fun q _ h => freeAll hD hS hA q h) (freeAll hD hS hA) (fun r u t H1 locs1 ht _ hw hB _ _ hS1 => kk r u H1 locs1 hw (ht ▸ hB.1) (hB.2.weaken (fun _ q _ h => freeAll hD hS hA q.1 h)) hS1)
theorem rwVv {S1 : Type} {post : S1 → Prop} {Wf : S1 → va_W} (S : CallFix p m c cc nL s args Ts own) (hM : Met l y wy rm (va_Pc (.ref b :: As) (Rw D cI cL cZ cO w H.size)) (va_Qv post (fun u => Wo D (va_A w H.size) (Wf u)) (va_A w H.size)) mc ms (va_A w H.size)) (cw : CallW R s args own C index y bytes maxL ret wy rm mc ms n) (hO : Okk D cI cL cZ cO s) (hP : va_P D vwCl w H) (hD : va_D A0 w) (hS : va_S A0 H0 H locs) (hA : ∀ q, H0.size ≤ q → A0 q) (hv : Recv s H C b) (hn : As.length = n) (hsize : ls.size = nL) (hst : st0 = As.reverse ++ .ref b :: rest) (hW : (rest.map fun v => v.category).sum ≤ 8) (hdg : decode cc pc = .ok (.invokevirtual index, 3)) (hcl : cells + mc ≤ R.cells ∧ slots + ms ≤ R.slots)
    (kk : ∀ (u : S1) (H1 : Heap) (locs1 : List Loc), post u → va_P D vwCl (Wf u) H1 → va_D A0 (Wf u) → va_S A0 H0 H1 locs1 → W p l e R s m args below meth c H1 locs1 (cells + mc) (slots + ms) Q (F0 m (pc + 3) ls rest)) : W p l e R s m args below meth c H locs cells slots Q (F0 m pc ls st0) :=
  va_callv (va_runV (g := F0 m pc ls st0) S hM cw ⟨Rw.blind, hv, fun U hU hW => ⟨rfl, by rw [hU], by rw [hU]; exact hP, hO.warm hW, hD.weaken (fun _ _ _ _ => trivial)⟩⟩ rfl hn hsize hst (lv_room hW) hdg hcl) hS (fun q _ h => freeAll hD hS hA q h) (freeAll hD hS hA) (fun u t H1 locs1 ht _ hw hB _ _ hS1 => kk u H1 locs1 hw (ht ▸ hB.1) (hB.2.weaken (fun _ q _ h => freeAll hD hS hA q.1 h)) hS1)
end BaseCalls
/-- a range check's answer -/
def wi (a b c : Int32) : Int32 := if b ≤ a ∧ a ≤ c then 1 else 0
theorem wi_t {a b c : Int32} (h : ¬ wi a b c = 0) : b ≤ a ∧ a ≤ c := by
  unfold wi at h
  by_cases q : b ≤ a ∧ a ≤ c
  · exact q
  · rw [if_neg q] at h; exact absurd rfl h
theorem wi_f {a b c : Int32} (h : wi a b c = 0) : ¬ (b ≤ a ∧ a ≤ c) := by
  intro q
  rw [wi, if_pos q] at h
  exact absurd h (by decide)
theorem wi_nar (a b c : Int32) : narrow .boolean (.int (wi a b c)) = .int (wi a b c) := by
  unfold wi
  split <;> rfl
theorem wi_1 {a b c : Int32} (h : b ≤ a) (h2 : a ≤ c) : wi a b c = 1 := if_pos ⟨h, h2⟩
theorem wi_0 {a b c : Int32} (h : ¬ (b ≤ a ∧ a ≤ c)) : wi a b c = 0 := if_neg h
theorem i32_nlt {a b : Int32} : ¬ a < b ↔ b ≤ a := by rw [Int32.lt_iff_toInt_lt, Int32.le_iff_toInt_le]; omega
theorem i32_nle {a b : Int32} : ¬ a ≤ b ↔ b < a := by rw [Int32.lt_iff_toInt_lt, Int32.le_iff_toInt_le]; omega
