/-! THE CLAIM OUT OF ONE WALK OF THE LAW'S BODY. Your part is whole_start (and what it stands on); all else here is the same for every law, but numbers. -/
def R_law : String := "CheapHoursLaw"
def lw_P (b : Addr) (xs : List Int32) (args : Array Value) (s : State) : Prop := args = #[.ref b] ∧ s.IntsAt b xs ∧ xs.length ≤ 3072 ∧ (Jvm.Cond.and given_1 narrow_1).before args s = true
def lw_Q (_ : Array Value) (s : State) (o : Outcome) (t : State) : Prop := o = .returned (some (.int 1)) ∧ Framed s o t [] 600000 7302250
def lw_Z (below : List Frame) (a : Array Value) (s : State) : State → Prop := fun t => ∃ o, t.status = .running ∧ Ended t below o ∧ lw_Q a s o t
/-- the law's own end, with 1 on the stack, nothing written that was there before, its room as the claim has it -/
theorem lw_ret {p : Program} {l : Launch} {e : Env} {s : State} {m : MethodId} {below : List Frame} {meth : Method} {c : Code} {b : Nat} (hx : p.tables.exec = Jvm.exec) (hb : c.code = code) (hr : meth.sig.returnType = ret) (hlocks : meth.locks = false) {pc : Nat} {H : Heap} {ls : Array Slot} (hdg : decode code pc = .ok (.ireturn, 1)) : W p l e room_1 s m #[Value.ref b] below meth c H [] 600000 7302250 (lw_Z below #[Value.ref b] s) (F0 m pc ls [.int 1]) := by
  intro T hT X
  obtain ⟨fs, hret, hrun, hended, hW, hframe⟩ := X.leave (v := some (.int 1)) (hlocks := hlocks) (fun h => by rw [hr] at h; cases h)
  have hmeth' : T.vm.method? m = some meth := X.method'
  refine ⟨T.setFrames fs, ?_, .returned (some (.int 1)), hrun, hended, rfl, ⟨_, rfl⟩, hW, hframe⟩
  jvm_step X.here [X.here.top, hx, hb, hdg, hmeth', hr, ret, narrow_b1]
  (try refine ⟨rfl, ?_⟩); (try refine ⟨rfl, ?_⟩)
  first | (intro acts; rw [hret _ acts rfl rfl rfl]) | rw [hret _ _ rfl rfl rfl]
  exact Steps.refl _
/-- what holds at the law's entry: the machine, the code, the tables' words (any of lw_tbl by 'hts w (by decide +kernel)'), the script of L ints xs at the cell b, what the Statement gives of the start (any of its parts by flat_of_before) -/
def lw_At (p : Program) (s : State) (m : MethodId) (meth : Method) (c : Code) (b L : Nat) (xs : Nat → Int32) : Prop :=
  p.tables.exec = Jvm.exec ∧ c.code = code ∧ meth.sig.returnType = ret ∧ c.maxLocals = 4 ∧ s.vm.findClass R_law = some m.cls ∧ (∀ w ∈ lw_tbl, w.before #[Value.ref b] s = true) ∧ va_X b L xs s s.heap ∧ b < s.heap.size ∧ meth.locks = false ∧ (Jvm.Cond.and given_1 narrow_1).before #[Value.ref b] s = true
/-! two worlds side by side: a call that works in one of them -/
theorem va_D_l {A : Nat → Prop} {w1 w2 : va_W} (h : va_D A (w1 ++ w2)) : va_D A w1 := by
  rw [va_D_nd] at h ⊢
  rw [List.map_append, List.nodup_append] at h
  exact ⟨h.1.1, fun c hc => h.2 c (List.mem_append_left _ hc)⟩
theorem va_D_cm {A : Nat → Prop} {w1 w2 : va_W} (h : va_D A (w1 ++ w2)) : va_D A (w2 ++ w1) := va_D_perm h List.perm_append_comm
theorem joinL {A : Nat → Prop} {D : va_G} {w1 w2 w3 : va_W} {H H1 : Heap} (hP2 : va_P D vwCl w2 H) (hD : va_D A (w1 ++ w2)) (hk : ∀ q : Nat, q < H.size → ¬ va_A w1 H.size q → H1[q]? = H[q]?) (hF : ∀ q, va_A w1 H.size q → A q) (hD1 : va_D (va_A w1 H.size) w3) : va_P D vwCl w2 H1 ∧ va_D A (w3 ++ w2) := by
  have hnd := va_D_nd.mp hD
  rw [List.map_append, List.nodup_append] at hnd
  have hap : ∀ x ∈ w2, ¬ va_A w1 H.size x.1 := by
    intro x hx h
    rcases h with ⟨k, e, h⟩ | h
    · exact hnd.1.2.2 x.1 (List.mem_map.mpr ⟨(x.1, e), List.mem_of_getElem? h, rfl⟩) x.1 (List.mem_map.mpr ⟨x, hx, rfl⟩) rfl
    · obtain ⟨k, hk9⟩ := List.getElem?_of_mem hx
      have := (hP2 k x hk9).lt
      omega
  refine ⟨fun k x hx => (hP2 k x hx).kept (hk x.1 (hP2 k x hx).lt (hap x (List.mem_of_getElem? hx))), ?_⟩
  have h3 := va_D_nd.mp hD1
  rw [va_D_nd, List.map_append, List.nodup_append]
  refine ⟨⟨h3.1, hnd.1.2.1, fun a ha b hb e => ?_⟩, fun c hc => ?_⟩
  · obtain ⟨x, hx, rfl⟩ := List.mem_map.mp ha
    obtain ⟨y, hy, rfl⟩ := List.mem_map.mp hb
    have h4 := h3.2 x hx
    rw [e] at h4
    exact hap y hy h4
  · rcases List.mem_append.mp hc with h | h
    · exact hF _ (h3.2 c h)
    · exact hnd.2 c (List.mem_append_right _ h)
section TwoWorlds
variable {p : Program} {l : Launch} {e : Env} {R : Room} {s : State} {m : MethodId} {args : Array Value} {below : List Frame} {meth : Method} {c : Code} {H : Heap} {locs : List Loc} {cells slots : Nat} {Q : State → Prop}
variable {pc : Nat} {ls : Array Slot} {rest st0 As : List Value} {A0 : Nat → Prop} {H0 : Heap} {mc ms : Nat}
variable {y : MethodName} {bytes cc : ByteArray} {maxL nL n index : Nat} {ret : Option FieldType} {wy : List Cond} {rm : Room} {Ts : List Cond} {own C host : String} {b : Addr} {D : va_G} {cI cL cZ cO : ClassId} {w w2 : va_W}
theorem rwVi2 {S1 : Type} {post : Int32 → S1 → Prop} {Wf : S1 → va_W} (S : CallFix p m c cc nL s args Ts own) (hM : Met l y wy rm (va_Pc (.ref b :: As) (Rw D cI cL cZ cO w H.size)) (va_Qi post (fun u => Wo D (va_A w H.size) (Wf u)) (va_A w H.size)) mc ms (va_A w H.size)) (cw : CallW R s args own C index y bytes maxL ret wy rm mc ms n) (hO : Okk D cI cL cZ cO s) (hP : va_P D vwCl w H) (hP2 : va_P D vwCl w2 H) (hD : va_D A0 (w ++ w2)) (hS : va_S A0 H0 H locs) (hA : ∀ q, H0.size ≤ q → A0 q) (hv : Recv s H C b) (hn : As.length = n) (hsize : ls.size = nL) (hst : st0 = As.reverse ++ .ref b :: rest) (hW : (rest.map fun v => v.category).sum ≤ 8) (hdg : decode cc pc = .ok (.invokevirtual index, 3)) (hcl : cells + mc ≤ R.cells ∧ slots + ms ≤ R.slots)
    (kk : ∀ (r : Int32) (u : S1) (H1 : Heap) (locs1 : List Loc), post r u → va_P D vwCl (Wf u) H1 → va_P D vwCl w2 H1 → va_D A0 (Wf u ++ w2) → va_S A0 H0 H1 locs1 → W p l e R s m args below meth c H1 locs1 (cells + mc) (slots + ms) Q (F0 m (pc + 3) ls (.int r :: rest))) : W p l e R s m args below meth c H locs cells slots Q (F0 m pc ls st0) := by
  have hF := freeAll (va_D_l hD) hS hA
  refine va_calli (va_runV (g := F0 m pc ls st0) S hM cw ⟨Rw.blind, hv, fun U hU hW => ⟨rfl, by rw [hU], by rw [hU]; exact hP, hO.warm hW, (va_D_l hD).weaken (fun _ _ _ _ => trivial)⟩⟩ rfl hn hsize hst (lv_room hW) hdg hcl) hS (fun q _ h => hF q h) hF (fun r u t H1 locs1 ht _ hw hB _ hk1 hS1 => ?_)
  obtain ⟨h1, h2⟩ := joinL hP2 hD hk1 hF hB.2
  exact kk r u H1 locs1 hw (ht ▸ hB.1) h1 h2 hS1
theorem rwVl2 {S1 : Type} {post : Int64 → S1 → Prop} {Wf : S1 → va_W} (S : CallFix p m c cc nL s args Ts own) (hM : Met l y wy rm (va_Pc (.ref b :: As) (Rw D cI cL cZ cO w H.size)) (va_Ql post (fun u => Wo D (va_A w H.size) (Wf u)) (va_A w H.size)) mc ms (va_A w H.size)) (cw : CallW R s args own C index y bytes maxL ret wy rm mc ms n) (hO : Okk D cI cL cZ cO s) (hP : va_P D vwCl w H) (hP2 : va_P D vwCl w2 H) (hD : va_D A0 (w ++ w2)) (hS : va_S A0 H0 H locs) (hA : ∀ q, H0.size ≤ q → A0 q) (hv : Recv s H C b) (hn : As.length = n) (hsize : ls.size = nL) (hst : st0 = As.reverse ++ .ref b :: rest) (hW : (rest.map fun v => v.category).sum ≤ 8) (hdg : decode cc pc = .ok (.invokevirtual index, 3)) (hcl : cells + mc ≤ R.cells ∧ slots + ms ≤ R.slots)
    (kk : ∀ (r : Int64) (u : S1) (H1 : Heap) (locs1 : List Loc), post r u → va_P D vwCl (Wf u) H1 → va_P D vwCl w2 H1 → va_D A0 (Wf u ++ w2) → va_S A0 H0 H1 locs1 → W p l e R s m args below meth c H1 locs1 (cells + mc) (slots + ms) Q (F0 m (pc + 3) ls (.long r :: rest))) : W p l e R s m args below meth c H locs cells slots Q (F0 m pc ls st0) := by
  have hF := freeAll (va_D_l hD) hS hA
  refine va_calll (va_runV (g := F0 m pc ls st0) S hM cw ⟨Rw.blind, hv, fun U hU hW => ⟨rfl, by rw [hU], by rw [hU]; exact hP, hO.warm hW, (va_D_l hD).weaken (fun _ _ _ _ => trivial)⟩⟩ rfl hn hsize hst (lv_room hW) hdg hcl) hS (fun q _ h => hF q h) hF (fun r u t H1 locs1 ht _ hw hB _ hk1 hS1 => ?_)
  obtain ⟨h1, h2⟩ := joinL hP2 hD hk1 hF hB.2
  exact kk r u H1 locs1 hw (ht ▸ hB.1) h1 h2 hS1
theorem rwIv2 {S1 : Type} {post : S1 → Prop} {Wf : S1 → va_W} (S : CallFix p m c cc nL s args Ts own) (hM : Met l y wy rm (va_Pc (.ref b :: As) (Rw D cI cL cZ cO w H.size)) (va_Qv post (fun u => Wo D (va_A w H.size) (Wf u)) (va_A w H.size)) mc ms (va_A w H.size)) (cw : CallB R s args own index y bytes maxL none wy rm mc ms n ∧ y.name = "<init>" ∧ (Cond.instanceMethod y).before args s = true) (hO : Okk D cI cL cZ cO s) (hP : va_P D vwCl w H) (hP2 : va_P D vwCl w2 H) (hD : va_D A0 (w ++ w2)) (hS : va_S A0 H0 H locs) (hA : ∀ q, H0.size ≤ q → A0 q) (hn : As.length = n) (hsize : ls.size = nL) (hst : st0 = As.reverse ++ .ref b :: rest) (hW : (rest.map fun v => v.category).sum ≤ 8) (hdg : decode cc pc = .ok (.invokespecial index, 3)) (hcl : cells + mc ≤ R.cells ∧ slots + ms ≤ R.slots)
    (kk : ∀ (u : S1) (H1 : Heap) (locs1 : List Loc), post u → va_P D vwCl (Wf u) H1 → va_P D vwCl w2 H1 → va_D A0 (Wf u ++ w2) → va_S A0 H0 H1 locs1 → W p l e R s m args below meth c H1 locs1 (cells + mc) (slots + ms) Q (F0 m (pc + 3) ls rest)) : W p l e R s m args below meth c H locs cells slots Q (F0 m pc ls st0) := by
  have hF := freeAll (va_D_l hD) hS hA
  refine va_callv (va_runI (g := F0 m pc ls st0) S hM cw ⟨Rw.blind, fun U hU hW => ⟨rfl, by rw [hU], by rw [hU]; exact hP, hO.warm hW, (va_D_l hD).weaken (fun _ _ _ _ => trivial)⟩⟩ rfl hn hsize hst (lv_room hW) hdg hcl) hS (fun q _ h => hF q h) hF (fun u t H1 locs1 ht _ hw hB _ hk1 hS1 => ?_)
  obtain ⟨h1, h2⟩ := joinL hP2 hD hk1 hF hB.2
  exact kk u H1 locs1 hw (ht ▸ hB.1) h1 h2 hS1
end TwoWorlds
