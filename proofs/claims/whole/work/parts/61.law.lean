/-- the two worlds between two calls -/
def LW (D : va_G) (cI cL cZ cO : ClassId) (A : Nat → Prop) (o a : Nat) (H : Heap) : Prop := ∃ (q ja ta : Nat → Nat) (n nw : Nat) (full : Int32) (pr : Nat → Int32) (R : Nat → Nat → Int32) (L : Nat) (kn : Int32) (lp ch : Nat → Int32) (me : Nat → Int64) (ru wo : Nat → Int32) (mb : Nat → Int64) (lf : Nat → Int32) (r : Nat → Nat) (lp' ch' : Nat → Int32) (me' : Nat → Int64) (ru' wo' co : Nat → Int32),
  LI n nw full pr R L kn lp ch me ru wo lp' ch' ∧ va_P D vwCl (wC cI cL cO o q ja ta n nw full pr R L kn lp ch me ru wo mb lf) H ∧ va_P D vwCl (wM cI cL cZ a r (nI nw) full (nI n) (nI L) pr R lp' ch' me' ru' wo' co) H ∧ va_D A (wC cI cL cO o q ja ta n nw full pr R L kn lp ch me ru wo mb lf ++ wM cI cL cZ a r (nI nw) full (nI n) (nI L) pr R lp' ch' me' ru' wo' co)
abbrev hpA (s : State) : Nat → Prop := fun q : Nat => s.heap.size ≤ q
set_option maxHeartbeats 4000000 in
set_option maxRecDepth 100000 in
theorem lw_k0 {p : Program} {l : Launch} {e : Env} {s : State} {m : MethodId} {below : List Frame} {meth : Method} {c : Code} {b Ls i cells slots : Nat} {xs : Nat → Int32} {D : va_G} {cI cL cZ cO : ClassId} {o a : Nat} {H : Heap} {locs : List Loc} {ls : Array Slot} {Q : State → Prop} (C0 : lw_At p s m meth c b Ls xs) (hO : Okk D cI cL cZ cO s) (hi : i + 6 ≤ Ls) (hLs : Ls ≤ 3072) (hcl : cells + 2 ≤ room_1.cells ∧ slots + 24 ≤ room_1.slots) (hw : LW D cI cL cZ cO (hpA s) o a H) (hS : va_S (hpA s) s.heap H locs) (hl : lv_has ls 4 [(0, .ref b), (1, .ref o), (2, .ref a), (3, .int (nI i))]) (K : ∀ (H : Heap) (locs : List Loc), LW D cI cL cZ cO (hpA s) o a H → va_S (hpA s) s.heap H locs → W p l e room_1 s m #[Value.ref b] below meth c H locs (cells + 2) (slots + 24) Q (F0 m 686 ls [])) : W p l e room_1 s m #[Value.ref b] below meth c H locs cells slots Q (F0 m 108 ls []) := by
  obtain ⟨hx, hb, hr, hml, hown, hts0, hX, hbl, hlocks, hgv⟩ := C0
  have hown : s.vm.findClass RL = some m.cls := hown
  have hts : ∀ w ∈ wsL_law, w.before #[Value.ref b] s = true := fun w h => hts0 w (wsL_law_in w h)
  have hA : ∀ q : Nat, s.heap.size ≤ q → hpA s q := fun _ h => h
  have hbA : ¬ hpA s b := Nat.not_le.mpr hbl
  obtain ⟨q, ja, ta, n, nw, full, pr, R, L, kn, lp, ch, me, ru, wo, mb, lf, r, lp', ch', me', ru', wo', co, hI, hP1, hP2, hD⟩ := hw
  refine lv_aload_n hx hb dL_law_108 rfl (lv_at hl 1 rfl) ?_
  refine lv_aload_n hx hb dL_law_109 rfl (lv_at hl 0 rfl) ?_
  refine lv_iload_n hx hb dL_law_110 rfl (lv_at hl 3 rfl) ?_
  refine lv_iconst (v := 1) hx hb dL_law_111 (by decide) ?_
  refine n_iadd (x := i) (y := 1) hx hb dL_law_112 ?_
  refine va_sld hx hb hX hbl hbA hS (vp_in_nI (by omega) (by omega)) dL_law_113 ?_
  refine lv_aload_n hx hb dL_law_114 rfl (lv_at hl 0 rfl) ?_
  refine lv_iload_n hx hb dL_law_115 rfl (lv_at hl 3 rfl) ?_
  refine lv_iconst (v := 2) hx hb dL_law_116 (by decide) ?_
  refine n_iadd (x := i) (y := 2) hx hb dL_law_117 ?_
  refine va_sld hx hb hX hbl hbA hS (vp_in_nI (by omega) (by omega)) dL_law_118 ?_
  refine lv_aload_n hx hb dL_law_119 rfl (lv_at hl 0 rfl) ?_
  refine lv_iload_n hx hb dL_law_120 rfl (lv_at hl 3 rfl) ?_
  refine lv_iconst (v := 3) hx hb dL_law_121 (by decide) ?_
  refine n_iadd (x := i) (y := 3) hx hb dL_law_122 ?_
  refine va_sld hx hb hX hbl hbA hS (vp_in_nI (by omega) (by omega)) dL_law_123 ?_
  refine lv_aload_n hx hb dL_law_124 rfl (lv_at hl 0 rfl) ?_
  refine lv_iload_n hx hb dL_law_125 rfl (lv_at hl 3 rfl) ?_
  refine lv_iconst (v := 4) hx hb dL_law_126 (by decide) ?_
  refine n_iadd (x := i) (y := 4) hx hb dL_law_127 ?_
  refine va_sld hx hb hX hbl hbA hS (vp_in_nI (by omega) (by omega)) dL_law_128 ?_
  refine rwVi2 (As := [.int (xs (nI (i + 1)).toNatClampNeg), .int (xs (nI (i + 2)).toNatClampNeg), .int (xs (nI (i + 3)).toNatClampNeg), .int (xs (nI (i + 4)).toNatClampNeg)]) (rest := []) ⟨hx, hb, hml, hown, hts⟩ (c_X6_price l D cI cL cZ cO H.size o q ja ta n nw full pr R L kn lp ch me ru wo mb lf (xs (nI (i + 1)).toNatClampNeg) (xs (nI (i + 2)).toNatClampNeg) (xs (nI (i + 3)).toNatClampNeg) (xs (nI (i + 4)).toNatClampNeg) hI.1.2) (cwV 4 hts gL_law_X6_price rfl rfl rfl (by decide +kernel) ⟨Nat.le_of_ble_eq_true rfl, Nat.le_of_ble_eq_true rfl⟩) hO hP1 hP2 hD hS hA (va_recv hO.1 hP1 (ci := 5) (q0 := 0) rfl rfl) rfl hl.1 rfl (Nat.le_of_ble_eq_true rfl) dL_law_129 ⟨Nat.le_trans (Nat.le_add_right _ _) hcl.1, Nat.le_trans (Nat.le_add_right _ _) hcl.2⟩ (fun r1 u1 H locs e1 hP1 hP2 hD hS => ?_)
  refine lv_aload_n hx hb dL_law_132 rfl (lv_at hl 2 rfl) ?_
  refine lv_aload_n hx hb dL_law_133 rfl (lv_at hl 0 rfl) ?_
  refine lv_iload_n hx hb dL_law_134 rfl (lv_at hl 3 rfl) ?_
  refine lv_iconst (v := 1) hx hb dL_law_135 (by decide) ?_
  refine n_iadd (x := i) (y := 1) hx hb dL_law_136 ?_
  refine va_sld hx hb hX hbl hbA hS (vp_in_nI (by omega) (by omega)) dL_law_137 ?_
  refine lv_aload_n hx hb dL_law_138 rfl (lv_at hl 0 rfl) ?_
  refine lv_iload_n hx hb dL_law_139 rfl (lv_at hl 3 rfl) ?_
  refine lv_iconst (v := 2) hx hb dL_law_140 (by decide) ?_
  refine n_iadd (x := i) (y := 2) hx hb dL_law_141 ?_
  refine va_sld hx hb hX hbl hbA hS (vp_in_nI (by omega) (by omega)) dL_law_142 ?_
  refine lv_aload_n hx hb dL_law_143 rfl (lv_at hl 0 rfl) ?_
  refine lv_iload_n hx hb dL_law_144 rfl (lv_at hl 3 rfl) ?_
  refine lv_iconst (v := 3) hx hb dL_law_145 (by decide) ?_
  refine n_iadd (x := i) (y := 3) hx hb dL_law_146 ?_
  refine va_sld hx hb hX hbl hbA hS (vp_in_nI (by omega) (by omega)) dL_law_147 ?_
  refine lv_aload_n hx hb dL_law_148 rfl (lv_at hl 0 rfl) ?_
  refine lv_iload_n hx hb dL_law_149 rfl (lv_at hl 3 rfl) ?_
  refine lv_iconst (v := 4) hx hb dL_law_150 (by decide) ?_
  refine n_iadd (x := i) (y := 4) hx hb dL_law_151 ?_
  refine va_sld hx hb hX hbl hbA hS (vp_in_nI (by omega) (by omega)) dL_law_152 ?_
  refine rwVi2 (As := [.int (xs (nI (i + 1)).toNatClampNeg), .int (xs (nI (i + 2)).toNatClampNeg), .int (xs (nI (i + 3)).toNatClampNeg), .int (xs (nI (i + 4)).toNatClampNeg)]) (rest := [.int r1]) ⟨hx, hb, hml, hown, hts⟩ (c_X7_price l D cI cL cZ cO H.size a r full (nI n) (nI L) pr R lp' ch' me' ru' wo' co nw (xs (nI (i + 1)).toNatClampNeg) (xs (nI (i + 2)).toNatClampNeg) (xs (nI (i + 3)).toNatClampNeg) (xs (nI (i + 4)).toNatClampNeg) hI.1.2) (cwV 4 hts gL_law_X7_price rfl rfl rfl (by decide +kernel) ⟨Nat.le_of_ble_eq_true rfl, Nat.le_of_ble_eq_true rfl⟩) hO hP2 hP1 (va_D_cm hD) hS hA (va_recv hO.1 hP2 (ci := 6) (q0 := 0) rfl rfl) rfl hl.1 rfl (Nat.le_of_ble_eq_true rfl) dL_law_153 ⟨Nat.le_trans (Nat.le_add_right _ _) hcl.1, Nat.le_trans (Nat.le_add_right _ _) hcl.2⟩ (fun r2 u2 H locs e2 hP2 hP1 hD hS => ?_)
  refine lv_icmp_eq (tgt := 686) hx hb dL_law_156 (by decide) (fun _ => ?_) (fun c9 => absurd (e1.trans e2.symm) c9)
  refine W.widen (k := cells + 2) (n := slots + 24) (by omega) (by omega) ?_
  exact K _ _ ⟨_, _, _, _, _, _, _, _, _, _, _, _, _, _, _, _, _, _, _, _, _, _, _, _, LI_price hI (xs (nI (i + 1)).toNatClampNeg) (xs (nI (i + 2)).toNatClampNeg) (xs (nI (i + 3)).toNatClampNeg) (xs (nI (i + 4)).toNatClampNeg), hP1, hP2, (va_D_cm hD)⟩ hS
set_option maxHeartbeats 4000000 in
set_option maxRecDepth 100000 in
theorem lw_k1 {p : Program} {l : Launch} {e : Env} {s : State} {m : MethodId} {below : List Frame} {meth : Method} {c : Code} {b Ls i cells slots : Nat} {xs : Nat → Int32} {D : va_G} {cI cL cZ cO : ClassId} {o a : Nat} {H : Heap} {locs : List Loc} {ls : Array Slot} {Q : State → Prop} (C0 : lw_At p s m meth c b Ls xs) (hO : Okk D cI cL cZ cO s) (hi : i + 6 ≤ Ls) (hLs : Ls ≤ 3072) (hcl : cells + 2 ≤ room_1.cells ∧ slots + 24 ≤ room_1.slots) (hw : LW D cI cL cZ cO (hpA s) o a H) (hS : va_S (hpA s) s.heap H locs) (hl : lv_has ls 4 [(0, .ref b), (1, .ref o), (2, .ref a), (3, .int (nI i))]) (K : ∀ (H : Heap) (locs : List Loc), LW D cI cL cZ cO (hpA s) o a H → va_S (hpA s) s.heap H locs → W p l e room_1 s m #[Value.ref b] below meth c H locs (cells + 2) (slots + 24) Q (F0 m 686 ls [])) : W p l e room_1 s m #[Value.ref b] below meth c H locs cells slots Q (F0 m 161 ls []) := by
  obtain ⟨hx, hb, hr, hml, hown, hts0, hX, hbl, hlocks, hgv⟩ := C0
  have hown : s.vm.findClass RL = some m.cls := hown
  have hts : ∀ w ∈ wsL_law, w.before #[Value.ref b] s = true := fun w h => hts0 w (wsL_law_in w h)
  have hA : ∀ q : Nat, s.heap.size ≤ q → hpA s q := fun _ h => h
  have hbA : ¬ hpA s b := Nat.not_le.mpr hbl
  obtain ⟨q, ja, ta, n, nw, full, pr, R, L, kn, lp, ch, me, ru, wo, mb, lf, r, lp', ch', me', ru', wo', co, hI, hP1, hP2, hD⟩ := hw
  refine lv_aload_n hx hb dL_law_161 rfl (lv_at hl 1 rfl) ?_
  refine lv_aload_n hx hb dL_law_162 rfl (lv_at hl 0 rfl) ?_
  refine lv_iload_n hx hb dL_law_163 rfl (lv_at hl 3 rfl) ?_
  refine lv_iconst (v := 1) hx hb dL_law_164 (by decide) ?_
  refine n_iadd (x := i) (y := 1) hx hb dL_law_165 ?_
  refine va_sld hx hb hX hbl hbA hS (vp_in_nI (by omega) (by omega)) dL_law_166 ?_
  refine rwVi2 (As := [.int (xs (nI (i + 1)).toNatClampNeg)]) (rest := []) ⟨hx, hb, hml, hown, hts⟩ (c_X6_full l D cI cL cZ cO H.size o q ja ta n nw full pr R L kn lp ch me ru wo mb lf (xs (nI (i + 1)).toNatClampNeg) hI.1.1 hI.1.2) (cwV 1 hts gL_law_X6_full rfl rfl rfl (by decide +kernel) ⟨Nat.le_of_ble_eq_true rfl, Nat.le_of_ble_eq_true rfl⟩) hO hP1 hP2 hD hS hA (va_recv hO.1 hP1 (ci := 5) (q0 := 0) rfl rfl) rfl hl.1 rfl (Nat.le_of_ble_eq_true rfl) dL_law_167 ⟨Nat.le_trans (Nat.le_add_right _ _) hcl.1, Nat.le_trans (Nat.le_add_right _ _) hcl.2⟩ (fun r1 u1 H locs e1 hP1 hP2 hD hS => ?_)
  refine lv_aload_n hx hb dL_law_170 rfl (lv_at hl 2 rfl) ?_
  refine lv_aload_n hx hb dL_law_171 rfl (lv_at hl 0 rfl) ?_
  refine lv_iload_n hx hb dL_law_172 rfl (lv_at hl 3 rfl) ?_
  refine lv_iconst (v := 1) hx hb dL_law_173 (by decide) ?_
  refine n_iadd (x := i) (y := 1) hx hb dL_law_174 ?_
  refine va_sld hx hb hX hbl hbA hS (vp_in_nI (by omega) (by omega)) dL_law_175 ?_
  refine rwVi2 (As := [.int (xs (nI (i + 1)).toNatClampNeg)]) (rest := [.int r1]) ⟨hx, hb, hml, hown, hts⟩ (c_X7_full l D cI cL cZ cO H.size a r full (nI L) pr R lp' ch' me' ru' wo' co nw n (xs (nI (i + 1)).toNatClampNeg) hI.1.1 hI.1.2) (cwV 1 hts gL_law_X7_full rfl rfl rfl (by decide +kernel) ⟨Nat.le_of_ble_eq_true rfl, Nat.le_of_ble_eq_true rfl⟩) hO hP2 hP1 (va_D_cm hD) hS hA (va_recv hO.1 hP2 (ci := 6) (q0 := 0) rfl rfl) rfl hl.1 rfl (Nat.le_of_ble_eq_true rfl) dL_law_176 ⟨Nat.le_trans (Nat.le_add_right _ _) hcl.1, Nat.le_trans (Nat.le_add_right _ _) hcl.2⟩ (fun r2 u2 H locs e2 hP2 hP1 hD hS => ?_)
  refine lv_icmp_eq (tgt := 686) hx hb dL_law_179 (by decide) (fun _ => ?_) (fun c9 => absurd (e1.1.trans e2.symm) c9)
  refine W.widen (k := cells + 2) (n := slots + 24) (by omega) (by omega) ?_
  exact K _ _ ⟨_, _, _, _, _, _, _, _, _, _, _, _, _, _, _, _, _, _, _, _, _, _, _, _, LI_full hI (xs (nI (i + 1)).toNatClampNeg) e1.2, hP1, hP2, (va_D_cm hD)⟩ hS
set_option maxHeartbeats 4000000 in
set_option maxRecDepth 100000 in
theorem lw_k2 {p : Program} {l : Launch} {e : Env} {s : State} {m : MethodId} {below : List Frame} {meth : Method} {c : Code} {b Ls i cells slots : Nat} {xs : Nat → Int32} {D : va_G} {cI cL cZ cO : ClassId} {o a : Nat} {H : Heap} {locs : List Loc} {ls : Array Slot} {Q : State → Prop} (C0 : lw_At p s m meth c b Ls xs) (hO : Okk D cI cL cZ cO s) (hi : i + 6 ≤ Ls) (hLs : Ls ≤ 3072) (hcl : cells + 2 ≤ room_1.cells ∧ slots + 24 ≤ room_1.slots) (hw : LW D cI cL cZ cO (hpA s) o a H) (hS : va_S (hpA s) s.heap H locs) (hl : lv_has ls 4 [(0, .ref b), (1, .ref o), (2, .ref a), (3, .int (nI i))]) (K : ∀ (H : Heap) (locs : List Loc), LW D cI cL cZ cO (hpA s) o a H → va_S (hpA s) s.heap H locs → W p l e room_1 s m #[Value.ref b] below meth c H locs (cells + 2) (slots + 24) Q (F0 m 686 ls [])) : W p l e room_1 s m #[Value.ref b] below meth c H locs cells slots Q (F0 m 184 ls []) := by
  obtain ⟨hx, hb, hr, hml, hown, hts0, hX, hbl, hlocks, hgv⟩ := C0
  have hown : s.vm.findClass RL = some m.cls := hown
  have hts : ∀ w ∈ wsL_law, w.before #[Value.ref b] s = true := fun w h => hts0 w (wsL_law_in w h)
  have hA : ∀ q : Nat, s.heap.size ≤ q → hpA s q := fun _ h => h
  have hbA : ¬ hpA s b := Nat.not_le.mpr hbl
  obtain ⟨q, ja, ta, n, nw, full, pr, R, L, kn, lp, ch, me, ru, wo, mb, lf, r, lp', ch', me', ru', wo', co, hI, hP1, hP2, hD⟩ := hw
  refine lv_aload_n hx hb dL_law_184 rfl (lv_at hl 1 rfl) ?_
  refine lv_aload_n hx hb dL_law_185 rfl (lv_at hl 0 rfl) ?_
  refine lv_iload_n hx hb dL_law_186 rfl (lv_at hl 3 rfl) ?_
  refine lv_iconst (v := 1) hx hb dL_law_187 (by decide) ?_
  refine n_iadd (x := i) (y := 1) hx hb dL_law_188 ?_
  refine va_sld hx hb hX hbl hbA hS (vp_in_nI (by omega) (by omega)) dL_law_189 ?_
  refine lv_aload_n hx hb dL_law_190 rfl (lv_at hl 0 rfl) ?_
  refine lv_iload_n hx hb dL_law_191 rfl (lv_at hl 3 rfl) ?_
  refine lv_iconst (v := 2) hx hb dL_law_192 (by decide) ?_
  refine n_iadd (x := i) (y := 2) hx hb dL_law_193 ?_
  refine va_sld hx hb hX hbl hbA hS (vp_in_nI (by omega) (by omega)) dL_law_194 ?_
  refine lv_aload_n hx hb dL_law_195 rfl (lv_at hl 0 rfl) ?_
  refine lv_iload_n hx hb dL_law_196 rfl (lv_at hl 3 rfl) ?_
  refine lv_iconst (v := 3) hx hb dL_law_197 (by decide) ?_
  refine n_iadd (x := i) (y := 3) hx hb dL_law_198 ?_
  refine va_sld hx hb hX hbl hbA hS (vp_in_nI (by omega) (by omega)) dL_law_199 ?_
  refine rwVi2 (As := [.int (xs (nI (i + 1)).toNatClampNeg), .int (xs (nI (i + 2)).toNatClampNeg), .int (xs (nI (i + 3)).toNatClampNeg)]) (rest := []) ⟨hx, hb, hml, hown, hts⟩ (c_X6_job l D cI cL cZ cO H.size o q ja ta n nw full pr R L kn lp ch me ru wo mb lf (xs (nI (i + 1)).toNatClampNeg) (xs (nI (i + 2)).toNatClampNeg) (xs (nI (i + 3)).toNatClampNeg) hI.1.1) (cwV 3 hts gL_law_X6_job rfl rfl rfl (by decide +kernel) ⟨Nat.le_of_ble_eq_true rfl, Nat.le_of_ble_eq_true rfl⟩) hO hP1 hP2 hD hS hA (va_recv hO.1 hP1 (ci := 5) (q0 := 0) rfl rfl) rfl hl.1 rfl (Nat.le_of_ble_eq_true rfl) dL_law_200 hcl (fun r1 u1 H locs e1 hP1 hP2 hD hS => ?_)
  refine lv_aload_n hx hb dL_law_203 rfl (lv_at hl 2 rfl) ?_
  refine lv_aload_n hx hb dL_law_204 rfl (lv_at hl 0 rfl) ?_
  refine lv_iload_n hx hb dL_law_205 rfl (lv_at hl 3 rfl) ?_
  refine lv_iconst (v := 1) hx hb dL_law_206 (by decide) ?_
  refine n_iadd (x := i) (y := 1) hx hb dL_law_207 ?_
  refine va_sld hx hb hX hbl hbA hS (vp_in_nI (by omega) (by omega)) dL_law_208 ?_
  refine lv_aload_n hx hb dL_law_209 rfl (lv_at hl 0 rfl) ?_
  refine lv_iload_n hx hb dL_law_210 rfl (lv_at hl 3 rfl) ?_
  refine lv_iconst (v := 2) hx hb dL_law_211 (by decide) ?_
  refine n_iadd (x := i) (y := 2) hx hb dL_law_212 ?_
  refine va_sld hx hb hX hbl hbA hS (vp_in_nI (by omega) (by omega)) dL_law_213 ?_
  refine lv_aload_n hx hb dL_law_214 rfl (lv_at hl 0 rfl) ?_
  refine lv_iload_n hx hb dL_law_215 rfl (lv_at hl 3 rfl) ?_
  refine lv_iconst (v := 3) hx hb dL_law_216 (by decide) ?_
  refine n_iadd (x := i) (y := 3) hx hb dL_law_217 ?_
  refine va_sld hx hb hX hbl hbA hS (vp_in_nI (by omega) (by omega)) dL_law_218 ?_
  refine rwVi2 (As := [.int (xs (nI (i + 1)).toNatClampNeg), .int (xs (nI (i + 2)).toNatClampNeg), .int (xs (nI (i + 3)).toNatClampNeg)]) (rest := [.int r1]) ⟨hx, hb, hml, hown, hts⟩ (c_X7_job l D cI cL cZ cO H.size a r full (nI L) pr R lp' ch' me' ru' wo' co nw n (xs (nI (i + 1)).toNatClampNeg) (xs (nI (i + 2)).toNatClampNeg) (xs (nI (i + 3)).toNatClampNeg) hI.1.1 (hI.2.1.2.2 n (Nat.le_refl n))) (cwV 3 hts gL_law_X7_job rfl rfl rfl (by decide +kernel) ⟨Nat.le_of_ble_eq_true rfl, Nat.le_of_ble_eq_true rfl⟩) hO hP2 hP1 (va_D_cm hD) hS hA (va_recv hO.1 hP2 (ci := 6) (q0 := 0) rfl rfl) rfl hl.1 rfl (Nat.le_of_ble_eq_true rfl) dL_law_219 hcl (fun r2 u2 H locs e2 hP2 hP1 hD hS => ?_)
  refine lv_icmp_eq (tgt := 686) hx hb dL_law_222 (by decide) (fun _ => ?_) (fun c9 => absurd (e1.trans e2.symm) c9)
  exact K _ _ ⟨_, _, _, _, _, _, _, _, _, _, _, _, _, _, _, _, _, _, _, _, _, _, _, _, LI_job hI (xs (nI (i + 1)).toNatClampNeg) (xs (nI (i + 2)).toNatClampNeg) (xs (nI (i + 3)).toNatClampNeg), hP1, hP2, (va_D_cm hD)⟩ hS
set_option maxHeartbeats 4000000 in
set_option maxRecDepth 100000 in
theorem lw_k3 {p : Program} {l : Launch} {e : Env} {s : State} {m : MethodId} {below : List Frame} {meth : Method} {c : Code} {b Ls i cells slots : Nat} {xs : Nat → Int32} {D : va_G} {cI cL cZ cO : ClassId} {o a : Nat} {H : Heap} {locs : List Loc} {ls : Array Slot} {Q : State → Prop} (C0 : lw_At p s m meth c b Ls xs) (hO : Okk D cI cL cZ cO s) (hi : i + 6 ≤ Ls) (hLs : Ls ≤ 3072) (hcl : cells + 2 ≤ room_1.cells ∧ slots + 24 ≤ room_1.slots) (hw : LW D cI cL cZ cO (hpA s) o a H) (hS : va_S (hpA s) s.heap H locs) (hl : lv_has ls 4 [(0, .ref b), (1, .ref o), (2, .ref a), (3, .int (nI i))]) (K : ∀ (H : Heap) (locs : List Loc), LW D cI cL cZ cO (hpA s) o a H → va_S (hpA s) s.heap H locs → W p l e room_1 s m #[Value.ref b] below meth c H locs (cells + 2) (slots + 24) Q (F0 m 686 ls [])) : W p l e room_1 s m #[Value.ref b] below meth c H locs cells slots Q (F0 m 227 ls []) := by
  obtain ⟨hx, hb, hr, hml, hown, hts0, hX, hbl, hlocks, hgv⟩ := C0
  have hown : s.vm.findClass RL = some m.cls := hown
  have hts : ∀ w ∈ wsL_law, w.before #[Value.ref b] s = true := fun w h => hts0 w (wsL_law_in w h)
  have hA : ∀ q : Nat, s.heap.size ≤ q → hpA s q := fun _ h => h
  have hbA : ¬ hpA s b := Nat.not_le.mpr hbl
  obtain ⟨q, ja, ta, n, nw, full, pr, R, L, kn, lp, ch, me, ru, wo, mb, lf, r, lp', ch', me', ru', wo', co, hI, hP1, hP2, hD⟩ := hw
  refine lv_aload_n hx hb dL_law_227 rfl (lv_at hl 1 rfl) ?_
  refine lv_aload_n hx hb dL_law_228 rfl (lv_at hl 0 rfl) ?_
  refine lv_iload_n hx hb dL_law_229 rfl (lv_at hl 3 rfl) ?_
  refine lv_iconst (v := 1) hx hb dL_law_230 (by decide) ?_
  refine n_iadd (x := i) (y := 1) hx hb dL_law_231 ?_
  refine va_sld hx hb hX hbl hbA hS (vp_in_nI (by omega) (by omega)) dL_law_232 ?_
  refine rwVi2 (As := [.int (xs (nI (i + 1)).toNatClampNeg)]) (rest := []) ⟨hx, hb, hml, hown, hts⟩ (c_X6_go l D cI cL cZ cO H.size o q ja ta n nw full pr R L kn lp ch me ru wo mb lf (xs (nI (i + 1)).toNatClampNeg) hI.1.1 hI.1.2 hI.2.1.1 hI.2.1.2.1) (cwV 1 hts gL_law_X6_go rfl rfl rfl (by decide +kernel) ⟨Nat.le_of_ble_eq_true rfl, Nat.le_of_ble_eq_true rfl⟩) hO hP1 hP2 hD hS hA (va_recv hO.1 hP1 (ci := 5) (q0 := 0) rfl rfl) rfl hl.1 rfl (Nat.le_of_ble_eq_true rfl) dL_law_233 ⟨Nat.le_trans (Nat.le_add_right _ _) hcl.1, Nat.le_trans (Nat.le_add_right _ _) hcl.2⟩ (fun r1 u1 H locs e1 hP1 hP2 hD hS => ?_)
  refine lv_aload_n hx hb dL_law_236 rfl (lv_at hl 2 rfl) ?_
  refine lv_aload_n hx hb dL_law_237 rfl (lv_at hl 0 rfl) ?_
  refine lv_iload_n hx hb dL_law_238 rfl (lv_at hl 3 rfl) ?_
  refine lv_iconst (v := 1) hx hb dL_law_239 (by decide) ?_
  refine n_iadd (x := i) (y := 1) hx hb dL_law_240 ?_
  refine va_sld hx hb hX hbl hbA hS (vp_in_nI (by omega) (by omega)) dL_law_241 ?_
  refine rwVi2 (As := [.int (xs (nI (i + 1)).toNatClampNeg)]) (rest := [.int r1]) ⟨hx, hb, hml, hown, hts⟩ (c_X7_go l D cI cL cZ cO H.size a r full (nI L) pr R lp' ch' me' ru' wo' co nw n (xs (nI (i + 1)).toNatClampNeg) hI.1.1 hI.1.2 hI.2.1.1) (cwV 1 hts gL_law_X7_go rfl rfl rfl (by decide +kernel) ⟨Nat.le_of_ble_eq_true rfl, Nat.le_of_ble_eq_true rfl⟩) hO hP2 hP1 (va_D_cm hD) hS hA (va_recv hO.1 hP2 (ci := 6) (q0 := 0) rfl rfl) rfl hl.1 rfl (Nat.le_of_ble_eq_true rfl) dL_law_242 ⟨Nat.le_trans (Nat.le_add_right _ _) hcl.1, Nat.le_trans (Nat.le_add_right _ _) hcl.2⟩ (fun r2 u2 H locs e2 hP2 hP1 hD hS => ?_)
  refine lv_icmp_eq (tgt := 686) hx hb dL_law_245 (by decide) (fun _ => ?_) (fun c9 => absurd (e1.trans e2.symm) c9)
  refine W.widen (k := cells + 2) (n := slots + 24) (by omega) (by omega) ?_
  exact K _ _ ⟨_, _, _, _, _, _, _, _, _, _, _, _, _, _, _, _, _, _, _, _, _, _, _, _, LI_go hI (xs (nI (i + 1)).toNatClampNeg), hP1, hP2, (va_D_cm hD)⟩ hS
set_option maxHeartbeats 4000000 in
set_option maxRecDepth 100000 in
theorem lw_k4 {p : Program} {l : Launch} {e : Env} {s : State} {m : MethodId} {below : List Frame} {meth : Method} {c : Code} {b Ls i cells slots : Nat} {xs : Nat → Int32} {D : va_G} {cI cL cZ cO : ClassId} {o a : Nat} {H : Heap} {locs : List Loc} {ls : Array Slot} {Q : State → Prop} (C0 : lw_At p s m meth c b Ls xs) (hO : Okk D cI cL cZ cO s) (hi : i + 6 ≤ Ls) (hLs : Ls ≤ 3072) (hcl : cells + 2 ≤ room_1.cells ∧ slots + 24 ≤ room_1.slots) (hw : LW D cI cL cZ cO (hpA s) o a H) (hS : va_S (hpA s) s.heap H locs) (hl : lv_has ls 4 [(0, .ref b), (1, .ref o), (2, .ref a), (3, .int (nI i))]) (K : ∀ (H : Heap) (locs : List Loc), LW D cI cL cZ cO (hpA s) o a H → va_S (hpA s) s.heap H locs → W p l e room_1 s m #[Value.ref b] below meth c H locs (cells + 2) (slots + 24) Q (F0 m 686 ls [])) : W p l e room_1 s m #[Value.ref b] below meth c H locs cells slots Q (F0 m 250 ls []) := by
  obtain ⟨hx, hb, hr, hml, hown, hts0, hX, hbl, hlocks, hgv⟩ := C0
  have hown : s.vm.findClass RL = some m.cls := hown
  have hts : ∀ w ∈ wsL_law, w.before #[Value.ref b] s = true := fun w h => hts0 w (wsL_law_in w h)
  have hA : ∀ q : Nat, s.heap.size ≤ q → hpA s q := fun _ h => h
  have hbA : ¬ hpA s b := Nat.not_le.mpr hbl
  obtain ⟨q, ja, ta, n, nw, full, pr, R, L, kn, lp, ch, me, ru, wo, mb, lf, r, lp', ch', me', ru', wo', co, hI, hP1, hP2, hD⟩ := hw
  refine lv_aload_n hx hb dL_law_250 rfl (lv_at hl 1 rfl) ?_
  refine lv_aload_n hx hb dL_law_251 rfl (lv_at hl 0 rfl) ?_
  refine lv_iload_n hx hb dL_law_252 rfl (lv_at hl 3 rfl) ?_
  refine lv_iconst (v := 1) hx hb dL_law_253 (by decide) ?_
  refine n_iadd (x := i) (y := 1) hx hb dL_law_254 ?_
  refine va_sld hx hb hX hbl hbA hS (vp_in_nI (by omega) (by omega)) dL_law_255 ?_
  refine lv_aload_n hx hb dL_law_256 rfl (lv_at hl 0 rfl) ?_
  refine lv_iload_n hx hb dL_law_257 rfl (lv_at hl 3 rfl) ?_
  refine lv_iconst (v := 2) hx hb dL_law_258 (by decide) ?_
  refine n_iadd (x := i) (y := 2) hx hb dL_law_259 ?_
  refine va_sld hx hb hX hbl hbA hS (vp_in_nI (by omega) (by omega)) dL_law_260 ?_
  refine roVi (As := [.int (xs (nI (i + 1)).toNatClampNeg), .int (xs (nI (i + 2)).toNatClampNeg)]) (rest := []) ⟨hx, hb, hml, hown, hts⟩ (c_X6_told l D cI cL cZ cO o q ja ta n nw full pr R L kn lp ch me ru wo mb lf (xs (nI (i + 1)).toNatClampNeg) (xs (nI (i + 2)).toNatClampNeg) hI.1.1) (cwV 2 hts gL_law_X6_told rfl rfl rfl (by decide +kernel) ⟨Nat.le_of_ble_eq_true rfl, Nat.le_of_ble_eq_true rfl⟩) hO hP1 (va_recv hO.1 hP1 (ci := 5) (q0 := 0) rfl rfl) rfl hl.1 rfl (Nat.le_of_ble_eq_true rfl) dL_law_261 ⟨Nat.le_trans (Nat.le_add_right _ _) hcl.1, Nat.le_trans (Nat.le_add_right _ _) hcl.2⟩ (fun r1 e1 => ?_)
  refine lv_aload_n hx hb dL_law_264 rfl (lv_at hl 2 rfl) ?_
  refine lv_aload_n hx hb dL_law_265 rfl (lv_at hl 0 rfl) ?_
  refine lv_iload_n hx hb dL_law_266 rfl (lv_at hl 3 rfl) ?_
  refine lv_iconst (v := 1) hx hb dL_law_267 (by decide) ?_
  refine n_iadd (x := i) (y := 1) hx hb dL_law_268 ?_
  refine va_sld hx hb hX hbl hbA hS (vp_in_nI (by omega) (by omega)) dL_law_269 ?_
  refine lv_aload_n hx hb dL_law_270 rfl (lv_at hl 0 rfl) ?_
  refine lv_iload_n hx hb dL_law_271 rfl (lv_at hl 3 rfl) ?_
  refine lv_iconst (v := 2) hx hb dL_law_272 (by decide) ?_
  refine n_iadd (x := i) (y := 2) hx hb dL_law_273 ?_
  refine va_sld hx hb hX hbl hbA hS (vp_in_nI (by omega) (by omega)) dL_law_274 ?_
  refine roVi (As := [.int (xs (nI (i + 1)).toNatClampNeg), .int (xs (nI (i + 2)).toNatClampNeg)]) (rest := [.int r1]) ⟨hx, hb, hml, hown, hts⟩ (c_X7_told l D cI cL cZ cO a r (nI nw) full (nI L) pr R lp' ch' me' ru' wo' co n (xs (nI (i + 1)).toNatClampNeg) (xs (nI (i + 2)).toNatClampNeg) hI.1.1) (cwV 2 hts gL_law_X7_told rfl rfl rfl (by decide +kernel) ⟨Nat.le_of_ble_eq_true rfl, Nat.le_of_ble_eq_true rfl⟩) hO hP2 (va_recv hO.1 hP2 (ci := 6) (q0 := 0) rfl rfl) rfl hl.1 rfl (Nat.le_of_ble_eq_true rfl) dL_law_275 ⟨Nat.le_trans (Nat.le_add_right _ _) hcl.1, Nat.le_trans (Nat.le_add_right _ _) hcl.2⟩ (fun r2 e2 => ?_)
  refine lv_icmp_eq (tgt := 686) hx hb dL_law_278 (by decide) (fun _ => ?_) (fun c9 => absurd (e1.trans e2.symm) c9)
  refine W.widen (k := cells + 2) (n := slots + 24) (by omega) (by omega) ?_
  exact K _ _ ⟨_, _, _, _, _, _, _, _, _, _, _, _, _, _, _, _, _, _, _, _, _, _, _, _, hI, hP1, hP2, hD⟩ hS
set_option maxHeartbeats 4000000 in
set_option maxRecDepth 100000 in
theorem lw_k5 {p : Program} {l : Launch} {e : Env} {s : State} {m : MethodId} {below : List Frame} {meth : Method} {c : Code} {b Ls i cells slots : Nat} {xs : Nat → Int32} {D : va_G} {cI cL cZ cO : ClassId} {o a : Nat} {H : Heap} {locs : List Loc} {ls : Array Slot} {Q : State → Prop} (C0 : lw_At p s m meth c b Ls xs) (hO : Okk D cI cL cZ cO s) (hi : i + 6 ≤ Ls) (hLs : Ls ≤ 3072) (hcl : cells + 2 ≤ room_1.cells ∧ slots + 24 ≤ room_1.slots) (hw : LW D cI cL cZ cO (hpA s) o a H) (hS : va_S (hpA s) s.heap H locs) (hl : lv_has ls 4 [(0, .ref b), (1, .ref o), (2, .ref a), (3, .int (nI i))]) (K : ∀ (H : Heap) (locs : List Loc), LW D cI cL cZ cO (hpA s) o a H → va_S (hpA s) s.heap H locs → W p l e room_1 s m #[Value.ref b] below meth c H locs (cells + 2) (slots + 24) Q (F0 m 686 ls [])) : W p l e room_1 s m #[Value.ref b] below meth c H locs cells slots Q (F0 m 283 ls []) := by
  obtain ⟨hx, hb, hr, hml, hown, hts0, hX, hbl, hlocks, hgv⟩ := C0
  have hown : s.vm.findClass RL = some m.cls := hown
  have hts : ∀ w ∈ wsL_law, w.before #[Value.ref b] s = true := fun w h => hts0 w (wsL_law_in w h)
  have hA : ∀ q : Nat, s.heap.size ≤ q → hpA s q := fun _ h => h
  have hbA : ¬ hpA s b := Nat.not_le.mpr hbl
  obtain ⟨q, ja, ta, n, nw, full, pr, R, L, kn, lp, ch, me, ru, wo, mb, lf, r, lp', ch', me', ru', wo', co, hI, hP1, hP2, hD⟩ := hw
  refine lv_aload_n hx hb dL_law_283 rfl (lv_at hl 1 rfl) ?_
  refine lv_aload_n hx hb dL_law_284 rfl (lv_at hl 0 rfl) ?_
  refine lv_iload_n hx hb dL_law_285 rfl (lv_at hl 3 rfl) ?_
  refine lv_iconst (v := 1) hx hb dL_law_286 (by decide) ?_
  refine n_iadd (x := i) (y := 1) hx hb dL_law_287 ?_
  refine va_sld hx hb hX hbl hbA hS (vp_in_nI (by omega) (by omega)) dL_law_288 ?_
  refine lv_aload_n hx hb dL_law_289 rfl (lv_at hl 0 rfl) ?_
  refine lv_iload_n hx hb dL_law_290 rfl (lv_at hl 3 rfl) ?_
  refine lv_iconst (v := 2) hx hb dL_law_291 (by decide) ?_
  refine n_iadd (x := i) (y := 2) hx hb dL_law_292 ?_
  refine va_sld hx hb hX hbl hbA hS (vp_in_nI (by omega) (by omega)) dL_law_293 ?_
  refine lv_aload_n hx hb dL_law_294 rfl (lv_at hl 0 rfl) ?_
  refine lv_iload_n hx hb dL_law_295 rfl (lv_at hl 3 rfl) ?_
  refine lv_iconst (v := 3) hx hb dL_law_296 (by decide) ?_
  refine n_iadd (x := i) (y := 3) hx hb dL_law_297 ?_
  refine va_sld hx hb hX hbl hbA hS (vp_in_nI (by omega) (by omega)) dL_law_298 ?_
  refine roVi (As := [.int (xs (nI (i + 1)).toNatClampNeg), .int (xs (nI (i + 2)).toNatClampNeg), .int (xs (nI (i + 3)).toNatClampNeg)]) (rest := []) ⟨hx, hb, hml, hown, hts⟩ (c_X6_span l D cI cL cZ cO o (xs (nI (i + 1)).toNatClampNeg) (xs (nI (i + 2)).toNatClampNeg) (xs (nI (i + 3)).toNatClampNeg)) (cwV 3 hts gL_law_X6_span rfl rfl rfl (by decide +kernel) ⟨Nat.le_of_ble_eq_true rfl, Nat.le_of_ble_eq_true rfl⟩) hO (fun k9 q9 h9 => by simp at h9) (va_recv hO.1 hP1 (ci := 5) (q0 := 0) rfl rfl) rfl hl.1 rfl (Nat.le_of_ble_eq_true rfl) dL_law_299 ⟨Nat.le_trans (Nat.le_add_right _ _) hcl.1, Nat.le_trans (Nat.le_add_right _ _) hcl.2⟩ (fun r1 e1 => ?_)
  refine lv_aload_n hx hb dL_law_302 rfl (lv_at hl 2 rfl) ?_
  refine lv_aload_n hx hb dL_law_303 rfl (lv_at hl 0 rfl) ?_
  refine lv_iload_n hx hb dL_law_304 rfl (lv_at hl 3 rfl) ?_
  refine lv_iconst (v := 1) hx hb dL_law_305 (by decide) ?_
  refine n_iadd (x := i) (y := 1) hx hb dL_law_306 ?_
  refine va_sld hx hb hX hbl hbA hS (vp_in_nI (by omega) (by omega)) dL_law_307 ?_
  refine lv_aload_n hx hb dL_law_308 rfl (lv_at hl 0 rfl) ?_
  refine lv_iload_n hx hb dL_law_309 rfl (lv_at hl 3 rfl) ?_
  refine lv_iconst (v := 2) hx hb dL_law_310 (by decide) ?_
  refine n_iadd (x := i) (y := 2) hx hb dL_law_311 ?_
  refine va_sld hx hb hX hbl hbA hS (vp_in_nI (by omega) (by omega)) dL_law_312 ?_
  refine lv_aload_n hx hb dL_law_313 rfl (lv_at hl 0 rfl) ?_
  refine lv_iload_n hx hb dL_law_314 rfl (lv_at hl 3 rfl) ?_
  refine lv_iconst (v := 3) hx hb dL_law_315 (by decide) ?_
  refine n_iadd (x := i) (y := 3) hx hb dL_law_316 ?_
  refine va_sld hx hb hX hbl hbA hS (vp_in_nI (by omega) (by omega)) dL_law_317 ?_
  refine roVi (As := [.int (xs (nI (i + 1)).toNatClampNeg), .int (xs (nI (i + 2)).toNatClampNeg), .int (xs (nI (i + 3)).toNatClampNeg)]) (rest := [.int r1]) ⟨hx, hb, hml, hown, hts⟩ (c_X7_span l D cI cL cZ cO a (xs (nI (i + 1)).toNatClampNeg) (xs (nI (i + 2)).toNatClampNeg) (xs (nI (i + 3)).toNatClampNeg)) (cwV 3 hts gL_law_X7_span rfl rfl rfl (by decide +kernel) ⟨Nat.le_of_ble_eq_true rfl, Nat.le_of_ble_eq_true rfl⟩) hO (fun k9 q9 h9 => by simp at h9) (va_recv hO.1 hP2 (ci := 6) (q0 := 0) rfl rfl) rfl hl.1 rfl (Nat.le_of_ble_eq_true rfl) dL_law_318 ⟨Nat.le_trans (Nat.le_add_right _ _) hcl.1, Nat.le_trans (Nat.le_add_right _ _) hcl.2⟩ (fun r2 e2 => ?_)
  refine lv_icmp_eq (tgt := 686) hx hb dL_law_321 (by decide) (fun _ => ?_) (fun c9 => absurd (e1.trans e2.symm) c9)
  refine W.widen (k := cells + 2) (n := slots + 24) (by omega) (by omega) ?_
  exact K _ _ ⟨_, _, _, _, _, _, _, _, _, _, _, _, _, _, _, _, _, _, _, _, _, _, _, _, hI, hP1, hP2, hD⟩ hS
set_option maxHeartbeats 4000000 in
set_option maxRecDepth 100000 in
theorem lw_k6 {p : Program} {l : Launch} {e : Env} {s : State} {m : MethodId} {below : List Frame} {meth : Method} {c : Code} {b Ls i cells slots : Nat} {xs : Nat → Int32} {D : va_G} {cI cL cZ cO : ClassId} {o a : Nat} {H : Heap} {locs : List Loc} {ls : Array Slot} {Q : State → Prop} (C0 : lw_At p s m meth c b Ls xs) (hO : Okk D cI cL cZ cO s) (hi : i + 6 ≤ Ls) (hLs : Ls ≤ 3072) (hcl : cells + 2 ≤ room_1.cells ∧ slots + 24 ≤ room_1.slots) (hw : LW D cI cL cZ cO (hpA s) o a H) (hS : va_S (hpA s) s.heap H locs) (hl : lv_has ls 4 [(0, .ref b), (1, .ref o), (2, .ref a), (3, .int (nI i))]) (K : ∀ (H : Heap) (locs : List Loc), LW D cI cL cZ cO (hpA s) o a H → va_S (hpA s) s.heap H locs → W p l e room_1 s m #[Value.ref b] below meth c H locs (cells + 2) (slots + 24) Q (F0 m 686 ls [])) : W p l e room_1 s m #[Value.ref b] below meth c H locs cells slots Q (F0 m 326 ls []) := by
  obtain ⟨hx, hb, hr, hml, hown, hts0, hX, hbl, hlocks, hgv⟩ := C0
  have hown : s.vm.findClass RL = some m.cls := hown
  have hts : ∀ w ∈ wsL_law, w.before #[Value.ref b] s = true := fun w h => hts0 w (wsL_law_in w h)
  have hA : ∀ q : Nat, s.heap.size ≤ q → hpA s q := fun _ h => h
  have hbA : ¬ hpA s b := Nat.not_le.mpr hbl
  obtain ⟨q, ja, ta, n, nw, full, pr, R, L, kn, lp, ch, me, ru, wo, mb, lf, r, lp', ch', me', ru', wo', co, hI, hP1, hP2, hD⟩ := hw
  refine lv_aload_n hx hb dL_law_326 rfl (lv_at hl 1 rfl) ?_
  refine lv_aload_n hx hb dL_law_327 rfl (lv_at hl 0 rfl) ?_
  refine lv_iload_n hx hb dL_law_328 rfl (lv_at hl 3 rfl) ?_
  refine lv_iconst (v := 1) hx hb dL_law_329 (by decide) ?_
  refine n_iadd (x := i) (y := 1) hx hb dL_law_330 ?_
  refine va_sld hx hb hX hbl hbA hS (vp_in_nI (by omega) (by omega)) dL_law_331 ?_
  refine lv_aload_n hx hb dL_law_332 rfl (lv_at hl 0 rfl) ?_
  refine lv_iload_n hx hb dL_law_333 rfl (lv_at hl 3 rfl) ?_
  refine lv_iconst (v := 2) hx hb dL_law_334 (by decide) ?_
  refine n_iadd (x := i) (y := 2) hx hb dL_law_335 ?_
  refine va_sld hx hb hX hbl hbA hS (vp_in_nI (by omega) (by omega)) dL_law_336 ?_
  refine lv_aload_n hx hb dL_law_337 rfl (lv_at hl 0 rfl) ?_
  refine lv_iload_n hx hb dL_law_338 rfl (lv_at hl 3 rfl) ?_
  refine lv_iconst (v := 3) hx hb dL_law_339 (by decide) ?_
  refine n_iadd (x := i) (y := 3) hx hb dL_law_340 ?_
  refine va_sld hx hb hX hbl hbA hS (vp_in_nI (by omega) (by omega)) dL_law_341 ?_
  refine lv_aload_n hx hb dL_law_342 rfl (lv_at hl 0 rfl) ?_
  refine lv_iload_n hx hb dL_law_343 rfl (lv_at hl 3 rfl) ?_
  refine lv_iconst (v := 4) hx hb dL_law_344 (by decide) ?_
  refine n_iadd (x := i) (y := 4) hx hb dL_law_345 ?_
  refine va_sld hx hb hX hbl hbA hS (vp_in_nI (by omega) (by omega)) dL_law_346 ?_
  refine lv_aload_n hx hb dL_law_347 rfl (lv_at hl 0 rfl) ?_
  refine lv_iload_n hx hb dL_law_348 rfl (lv_at hl 3 rfl) ?_
  refine lv_iconst (v := 5) hx hb dL_law_349 (by decide) ?_
  refine n_iadd (x := i) (y := 5) hx hb dL_law_350 ?_
  refine va_sld hx hb hX hbl hbA hS (vp_in_nI (by omega) (by omega)) dL_law_351 ?_
  refine roVl (As := [.int (xs (nI (i + 1)).toNatClampNeg), .int (xs (nI (i + 2)).toNatClampNeg), .int (xs (nI (i + 3)).toNatClampNeg), .int (xs (nI (i + 4)).toNatClampNeg), .int (xs (nI (i + 5)).toNatClampNeg)]) (rest := []) ⟨hx, hb, hml, hown, hts⟩ (c_X6_mean l D cI cL cZ cO o (xs (nI (i + 1)).toNatClampNeg) (xs (nI (i + 2)).toNatClampNeg) (xs (nI (i + 3)).toNatClampNeg) (xs (nI (i + 4)).toNatClampNeg) (xs (nI (i + 5)).toNatClampNeg)) (cwV 5 hts gL_law_X6_mean rfl rfl rfl (by decide +kernel) ⟨Nat.le_of_ble_eq_true rfl, Nat.le_of_ble_eq_true rfl⟩) hO (fun k9 q9 h9 => by simp at h9) (va_recv hO.1 hP1 (ci := 5) (q0 := 0) rfl rfl) rfl hl.1 rfl (Nat.le_of_ble_eq_true rfl) dL_law_352 ⟨Nat.le_trans (Nat.le_add_right _ _) hcl.1, Nat.le_trans (Nat.le_add_right _ _) hcl.2⟩ (fun r1 e1 => ?_)
  refine lv_aload_n hx hb dL_law_355 rfl (lv_at hl 2 rfl) ?_
  refine lv_aload_n hx hb dL_law_356 rfl (lv_at hl 0 rfl) ?_
  refine lv_iload_n hx hb dL_law_357 rfl (lv_at hl 3 rfl) ?_
  refine lv_iconst (v := 1) hx hb dL_law_358 (by decide) ?_
  refine n_iadd (x := i) (y := 1) hx hb dL_law_359 ?_
  refine va_sld hx hb hX hbl hbA hS (vp_in_nI (by omega) (by omega)) dL_law_360 ?_
  refine lv_aload_n hx hb dL_law_361 rfl (lv_at hl 0 rfl) ?_
  refine lv_iload_n hx hb dL_law_362 rfl (lv_at hl 3 rfl) ?_
  refine lv_iconst (v := 2) hx hb dL_law_363 (by decide) ?_
  refine n_iadd (x := i) (y := 2) hx hb dL_law_364 ?_
  refine va_sld hx hb hX hbl hbA hS (vp_in_nI (by omega) (by omega)) dL_law_365 ?_
  refine lv_aload_n hx hb dL_law_366 rfl (lv_at hl 0 rfl) ?_
  refine lv_iload_n hx hb dL_law_367 rfl (lv_at hl 3 rfl) ?_
  refine lv_iconst (v := 3) hx hb dL_law_368 (by decide) ?_
  refine n_iadd (x := i) (y := 3) hx hb dL_law_369 ?_
  refine va_sld hx hb hX hbl hbA hS (vp_in_nI (by omega) (by omega)) dL_law_370 ?_
  refine lv_aload_n hx hb dL_law_371 rfl (lv_at hl 0 rfl) ?_
  refine lv_iload_n hx hb dL_law_372 rfl (lv_at hl 3 rfl) ?_
  refine lv_iconst (v := 4) hx hb dL_law_373 (by decide) ?_
  refine n_iadd (x := i) (y := 4) hx hb dL_law_374 ?_
  refine va_sld hx hb hX hbl hbA hS (vp_in_nI (by omega) (by omega)) dL_law_375 ?_
  refine lv_aload_n hx hb dL_law_376 rfl (lv_at hl 0 rfl) ?_
  refine lv_iload_n hx hb dL_law_377 rfl (lv_at hl 3 rfl) ?_
  refine lv_iconst (v := 5) hx hb dL_law_378 (by decide) ?_
  refine n_iadd (x := i) (y := 5) hx hb dL_law_379 ?_
  refine va_sld hx hb hX hbl hbA hS (vp_in_nI (by omega) (by omega)) dL_law_380 ?_
  refine roVl (As := [.int (xs (nI (i + 1)).toNatClampNeg), .int (xs (nI (i + 2)).toNatClampNeg), .int (xs (nI (i + 3)).toNatClampNeg), .int (xs (nI (i + 4)).toNatClampNeg), .int (xs (nI (i + 5)).toNatClampNeg)]) (rest := [.long r1]) ⟨hx, hb, hml, hown, hts⟩ (c_X7_mean l D cI cL cZ cO a (xs (nI (i + 1)).toNatClampNeg) (xs (nI (i + 2)).toNatClampNeg) (xs (nI (i + 3)).toNatClampNeg) (xs (nI (i + 4)).toNatClampNeg) (xs (nI (i + 5)).toNatClampNeg)) (cwV 5 hts gL_law_X7_mean rfl rfl rfl (by decide +kernel) ⟨Nat.le_of_ble_eq_true rfl, Nat.le_of_ble_eq_true rfl⟩) hO (fun k9 q9 h9 => by simp at h9) (va_recv hO.1 hP2 (ci := 6) (q0 := 0) rfl rfl) rfl hl.1 rfl (Nat.le_of_ble_eq_true rfl) dL_law_381 ⟨Nat.le_trans (Nat.le_add_right _ _) hcl.1, Nat.le_trans (Nat.le_add_right _ _) hcl.2⟩ (fun r2 e2 => ?_)
  refine W.lcmp hx hb dL_law_384 ?_
  refine lv_if_eq (tgt := 686) hx hb dL_law_385 (by decide) (fun _ => ?_) (fun c9 => absurd (lgc_eq.mpr ((e1.trans (meanW_eq _ _ _ _ _)).trans e2.symm)) c9)
  refine W.widen (k := cells + 2) (n := slots + 24) (by omega) (by omega) ?_
  exact K _ _ ⟨_, _, _, _, _, _, _, _, _, _, _, _, _, _, _, _, _, _, _, _, _, _, _, _, hI, hP1, hP2, hD⟩ hS
set_option maxHeartbeats 4000000 in
set_option maxRecDepth 100000 in
theorem lw_k7 {p : Program} {l : Launch} {e : Env} {s : State} {m : MethodId} {below : List Frame} {meth : Method} {c : Code} {b Ls i cells slots : Nat} {xs : Nat → Int32} {D : va_G} {cI cL cZ cO : ClassId} {o a : Nat} {H : Heap} {locs : List Loc} {ls : Array Slot} {Q : State → Prop} (C0 : lw_At p s m meth c b Ls xs) (hO : Okk D cI cL cZ cO s) (hi : i + 6 ≤ Ls) (hLs : Ls ≤ 3072) (hcl : cells + 2 ≤ room_1.cells ∧ slots + 24 ≤ room_1.slots) (hw : LW D cI cL cZ cO (hpA s) o a H) (hS : va_S (hpA s) s.heap H locs) (hl : lv_has ls 4 [(0, .ref b), (1, .ref o), (2, .ref a), (3, .int (nI i))]) (K : ∀ (H : Heap) (locs : List Loc), LW D cI cL cZ cO (hpA s) o a H → va_S (hpA s) s.heap H locs → W p l e room_1 s m #[Value.ref b] below meth c H locs (cells + 2) (slots + 24) Q (F0 m 686 ls [])) : W p l e room_1 s m #[Value.ref b] below meth c H locs cells slots Q (F0 m 390 ls []) := by
  obtain ⟨hx, hb, hr, hml, hown, hts0, hX, hbl, hlocks, hgv⟩ := C0
  have hown : s.vm.findClass RL = some m.cls := hown
  have hts : ∀ w ∈ wsL_law, w.before #[Value.ref b] s = true := fun w h => hts0 w (wsL_law_in w h)
  have hA : ∀ q : Nat, s.heap.size ≤ q → hpA s q := fun _ h => h
  have hbA : ¬ hpA s b := Nat.not_le.mpr hbl
  obtain ⟨q, ja, ta, n, nw, full, pr, R, L, kn, lp, ch, me, ru, wo, mb, lf, r, lp', ch', me', ru', wo', co, hI, hP1, hP2, hD⟩ := hw
  refine lv_aload_n hx hb dL_law_390 rfl (lv_at hl 1 rfl) ?_
  refine lv_aload_n hx hb dL_law_391 rfl (lv_at hl 0 rfl) ?_
  refine lv_iload_n hx hb dL_law_392 rfl (lv_at hl 3 rfl) ?_
  refine lv_iconst (v := 1) hx hb dL_law_393 (by decide) ?_
  refine n_iadd (x := i) (y := 1) hx hb dL_law_394 ?_
  refine va_sld hx hb hX hbl hbA hS (vp_in_nI (by omega) (by omega)) dL_law_395 ?_
  refine rwVi2 (As := [.int (xs (nI (i + 1)).toNatClampNeg)]) (rest := []) ⟨hx, hb, hml, hown, hts⟩ (c_X6_levels l D cI cL cZ cO H.size o q ja ta n nw full pr R L kn lp ch me ru wo mb lf (xs (nI (i + 1)).toNatClampNeg) ) (cwV 1 hts gL_law_X6_levels rfl rfl rfl (by decide +kernel) ⟨Nat.le_of_ble_eq_true rfl, Nat.le_of_ble_eq_true rfl⟩) hO hP1 hP2 hD hS hA (va_recv hO.1 hP1 (ci := 5) (q0 := 0) rfl rfl) rfl hl.1 rfl (Nat.le_of_ble_eq_true rfl) dL_law_396 ⟨Nat.le_trans (Nat.le_add_right _ _) hcl.1, Nat.le_trans (Nat.le_add_right _ _) hcl.2⟩ (fun r1 u1 H locs e1 hP1 hP2 hD hS => ?_)
  refine lv_aload_n hx hb dL_law_399 rfl (lv_at hl 2 rfl) ?_
  refine lv_aload_n hx hb dL_law_400 rfl (lv_at hl 0 rfl) ?_
  refine lv_iload_n hx hb dL_law_401 rfl (lv_at hl 3 rfl) ?_
  refine lv_iconst (v := 1) hx hb dL_law_402 (by decide) ?_
  refine n_iadd (x := i) (y := 1) hx hb dL_law_403 ?_
  refine va_sld hx hb hX hbl hbA hS (vp_in_nI (by omega) (by omega)) dL_law_404 ?_
  refine rwVi2 (As := [.int (xs (nI (i + 1)).toNatClampNeg)]) (rest := [.int r1]) ⟨hx, hb, hml, hown, hts⟩ (c_X7_levels l D cI cL cZ cO H.size a r (nI nw) full (nI n) pr R lp' ch' me' ru' wo' co L (xs (nI (i + 1)).toNatClampNeg) hI.2.2.2.1) (cwV 1 hts gL_law_X7_levels rfl rfl rfl (by decide +kernel) ⟨Nat.le_of_ble_eq_true rfl, Nat.le_of_ble_eq_true rfl⟩) hO hP2 hP1 (va_D_cm hD) hS hA (va_recv hO.1 hP2 (ci := 6) (q0 := 0) rfl rfl) rfl hl.1 rfl (Nat.le_of_ble_eq_true rfl) dL_law_405 ⟨Nat.le_trans (Nat.le_add_right _ _) hcl.1, Nat.le_trans (Nat.le_add_right _ _) hcl.2⟩ (fun r2 u2 H locs e2 hP2 hP1 hD hS => ?_)
  refine lv_icmp_eq (tgt := 686) hx hb dL_law_408 (by decide) (fun _ => ?_) (fun c9 => absurd (e1.1.trans e2.symm) c9)
  refine W.widen (k := cells + 2) (n := slots + 24) (by omega) (by omega) ?_
  exact K _ _ ⟨_, _, _, _, _, _, _, _, _, _, _, _, _, _, _, _, _, _, _, _, _, _, _, _, LI_levels hI (xs (nI (i + 1)).toNatClampNeg) e1.2, hP1, hP2, (va_D_cm hD)⟩ hS
set_option maxHeartbeats 4000000 in
set_option maxRecDepth 100000 in
theorem lw_k8 {p : Program} {l : Launch} {e : Env} {s : State} {m : MethodId} {below : List Frame} {meth : Method} {c : Code} {b Ls i cells slots : Nat} {xs : Nat → Int32} {D : va_G} {cI cL cZ cO : ClassId} {o a : Nat} {H : Heap} {locs : List Loc} {ls : Array Slot} {Q : State → Prop} (C0 : lw_At p s m meth c b Ls xs) (hO : Okk D cI cL cZ cO s) (hi : i + 6 ≤ Ls) (hLs : Ls ≤ 3072) (hcl : cells + 2 ≤ room_1.cells ∧ slots + 24 ≤ room_1.slots) (hw : LW D cI cL cZ cO (hpA s) o a H) (hS : va_S (hpA s) s.heap H locs) (hl : lv_has ls 4 [(0, .ref b), (1, .ref o), (2, .ref a), (3, .int (nI i))]) (K : ∀ (H : Heap) (locs : List Loc), LW D cI cL cZ cO (hpA s) o a H → va_S (hpA s) s.heap H locs → W p l e room_1 s m #[Value.ref b] below meth c H locs (cells + 2) (slots + 24) Q (F0 m 686 ls [])) : W p l e room_1 s m #[Value.ref b] below meth c H locs cells slots Q (F0 m 413 ls []) := by
  obtain ⟨hx, hb, hr, hml, hown, hts0, hX, hbl, hlocks, hgv⟩ := C0
  have hown : s.vm.findClass RL = some m.cls := hown
  have hts : ∀ w ∈ wsL_law, w.before #[Value.ref b] s = true := fun w h => hts0 w (wsL_law_in w h)
  have hA : ∀ q : Nat, s.heap.size ≤ q → hpA s q := fun _ h => h
  have hbA : ¬ hpA s b := Nat.not_le.mpr hbl
  obtain ⟨q, ja, ta, n, nw, full, pr, R, L, kn, lp, ch, me, ru, wo, mb, lf, r, lp', ch', me', ru', wo', co, hI, hP1, hP2, hD⟩ := hw
  refine lv_aload_n hx hb dL_law_413 rfl (lv_at hl 1 rfl) ?_
  refine lv_aload_n hx hb dL_law_414 rfl (lv_at hl 0 rfl) ?_
  refine lv_iload_n hx hb dL_law_415 rfl (lv_at hl 3 rfl) ?_
  refine lv_iconst (v := 1) hx hb dL_law_416 (by decide) ?_
  refine n_iadd (x := i) (y := 1) hx hb dL_law_417 ?_
  refine va_sld hx hb hX hbl hbA hS (vp_in_nI (by omega) (by omega)) dL_law_418 ?_
  refine lv_aload_n hx hb dL_law_419 rfl (lv_at hl 0 rfl) ?_
  refine lv_iload_n hx hb dL_law_420 rfl (lv_at hl 3 rfl) ?_
  refine lv_iconst (v := 2) hx hb dL_law_421 (by decide) ?_
  refine n_iadd (x := i) (y := 2) hx hb dL_law_422 ?_
  refine va_sld hx hb hX hbl hbA hS (vp_in_nI (by omega) (by omega)) dL_law_423 ?_
  refine lv_aload_n hx hb dL_law_424 rfl (lv_at hl 0 rfl) ?_
  refine lv_iload_n hx hb dL_law_425 rfl (lv_at hl 3 rfl) ?_
  refine lv_iconst (v := 3) hx hb dL_law_426 (by decide) ?_
  refine n_iadd (x := i) (y := 3) hx hb dL_law_427 ?_
  refine va_sld hx hb hX hbl hbA hS (vp_in_nI (by omega) (by omega)) dL_law_428 ?_
  refine rwVi2 (As := [.int (xs (nI (i + 1)).toNatClampNeg), .int (xs (nI (i + 2)).toNatClampNeg), .int (xs (nI (i + 3)).toNatClampNeg)]) (rest := []) ⟨hx, hb, hml, hown, hts⟩ (c_X6_level l D cI cL cZ cO H.size o q ja ta n nw full pr R L kn lp ch me ru wo mb lf (xs (nI (i + 1)).toNatClampNeg) (xs (nI (i + 2)).toNatClampNeg) (xs (nI (i + 3)).toNatClampNeg) hI.2.2.2.1) (cwV 3 hts gL_law_X6_level rfl rfl rfl (by decide +kernel) ⟨Nat.le_of_ble_eq_true rfl, Nat.le_of_ble_eq_true rfl⟩) hO hP1 hP2 hD hS hA (va_recv hO.1 hP1 (ci := 5) (q0 := 0) rfl rfl) rfl hl.1 rfl (Nat.le_of_ble_eq_true rfl) dL_law_429 ⟨Nat.le_trans (Nat.le_add_right _ _) hcl.1, Nat.le_trans (Nat.le_add_right _ _) hcl.2⟩ (fun r1 u1 H locs e1 hP1 hP2 hD hS => ?_)
  refine lv_aload_n hx hb dL_law_432 rfl (lv_at hl 2 rfl) ?_
  refine lv_aload_n hx hb dL_law_433 rfl (lv_at hl 0 rfl) ?_
  refine lv_iload_n hx hb dL_law_434 rfl (lv_at hl 3 rfl) ?_
  refine lv_iconst (v := 1) hx hb dL_law_435 (by decide) ?_
  refine n_iadd (x := i) (y := 1) hx hb dL_law_436 ?_
  refine va_sld hx hb hX hbl hbA hS (vp_in_nI (by omega) (by omega)) dL_law_437 ?_
  refine lv_aload_n hx hb dL_law_438 rfl (lv_at hl 0 rfl) ?_
  refine lv_iload_n hx hb dL_law_439 rfl (lv_at hl 3 rfl) ?_
  refine lv_iconst (v := 2) hx hb dL_law_440 (by decide) ?_
  refine n_iadd (x := i) (y := 2) hx hb dL_law_441 ?_
  refine va_sld hx hb hX hbl hbA hS (vp_in_nI (by omega) (by omega)) dL_law_442 ?_
  refine lv_aload_n hx hb dL_law_443 rfl (lv_at hl 0 rfl) ?_
  refine lv_iload_n hx hb dL_law_444 rfl (lv_at hl 3 rfl) ?_
  refine lv_iconst (v := 3) hx hb dL_law_445 (by decide) ?_
  refine n_iadd (x := i) (y := 3) hx hb dL_law_446 ?_
  refine va_sld hx hb hX hbl hbA hS (vp_in_nI (by omega) (by omega)) dL_law_447 ?_
  refine rwVi2 (As := [.int (xs (nI (i + 1)).toNatClampNeg), .int (xs (nI (i + 2)).toNatClampNeg), .int (xs (nI (i + 3)).toNatClampNeg)]) (rest := [.int r1]) ⟨hx, hb, hml, hown, hts⟩ (c_X7_level l D cI cL cZ cO H.size a r (nI nw) full (nI n) pr R lp' ch' me' ru' wo' co L (xs (nI (i + 1)).toNatClampNeg) (xs (nI (i + 2)).toNatClampNeg) (xs (nI (i + 3)).toNatClampNeg) hI.2.2.2.1) (cwV 3 hts gL_law_X7_level rfl rfl rfl (by decide +kernel) ⟨Nat.le_of_ble_eq_true rfl, Nat.le_of_ble_eq_true rfl⟩) hO hP2 hP1 (va_D_cm hD) hS hA (va_recv hO.1 hP2 (ci := 6) (q0 := 0) rfl rfl) rfl hl.1 rfl (Nat.le_of_ble_eq_true rfl) dL_law_448 ⟨Nat.le_trans (Nat.le_add_right _ _) hcl.1, Nat.le_trans (Nat.le_add_right _ _) hcl.2⟩ (fun r2 u2 H locs e2 hP2 hP1 hD hS => ?_)
  refine lv_icmp_eq (tgt := 686) hx hb dL_law_451 (by decide) (fun _ => ?_) (fun c9 => absurd (e1.1.trans e2.symm) c9)
  refine W.widen (k := cells + 2) (n := slots + 24) (by omega) (by omega) ?_
  exact K _ _ ⟨_, _, _, _, _, _, _, _, _, _, _, _, _, _, _, _, _, _, _, _, _, _, _, _, LI_level hI (xs (nI (i + 1)).toNatClampNeg) (xs (nI (i + 2)).toNatClampNeg) (xs (nI (i + 3)).toNatClampNeg) e1.2, hP1, hP2, (va_D_cm hD)⟩ hS
set_option maxHeartbeats 4000000 in
set_option maxRecDepth 100000 in
theorem lw_k9 {p : Program} {l : Launch} {e : Env} {s : State} {m : MethodId} {below : List Frame} {meth : Method} {c : Code} {b Ls i cells slots : Nat} {xs : Nat → Int32} {D : va_G} {cI cL cZ cO : ClassId} {o a : Nat} {H : Heap} {locs : List Loc} {ls : Array Slot} {Q : State → Prop} (C0 : lw_At p s m meth c b Ls xs) (hO : Okk D cI cL cZ cO s) (hi : i + 6 ≤ Ls) (hLs : Ls ≤ 3072) (hcl : cells + 2 ≤ room_1.cells ∧ slots + 24 ≤ room_1.slots) (hw : LW D cI cL cZ cO (hpA s) o a H) (hS : va_S (hpA s) s.heap H locs) (hl : lv_has ls 4 [(0, .ref b), (1, .ref o), (2, .ref a), (3, .int (nI i))]) (K : ∀ (H : Heap) (locs : List Loc), LW D cI cL cZ cO (hpA s) o a H → va_S (hpA s) s.heap H locs → W p l e room_1 s m #[Value.ref b] below meth c H locs (cells + 2) (slots + 24) Q (F0 m 686 ls [])) : W p l e room_1 s m #[Value.ref b] below meth c H locs cells slots Q (F0 m 456 ls []) := by
  obtain ⟨hx, hb, hr, hml, hown, hts0, hX, hbl, hlocks, hgv⟩ := C0
  have hown : s.vm.findClass RL = some m.cls := hown
  have hts : ∀ w ∈ wsL_law, w.before #[Value.ref b] s = true := fun w h => hts0 w (wsL_law_in w h)
  have hA : ∀ q : Nat, s.heap.size ≤ q → hpA s q := fun _ h => h
  have hbA : ¬ hpA s b := Nat.not_le.mpr hbl
  obtain ⟨q, ja, ta, n, nw, full, pr, R, L, kn, lp, ch, me, ru, wo, mb, lf, r, lp', ch', me', ru', wo', co, hI, hP1, hP2, hD⟩ := hw
  refine lv_aload_n hx hb dL_law_456 rfl (lv_at hl 1 rfl) ?_
  refine lv_aload_n hx hb dL_law_457 rfl (lv_at hl 0 rfl) ?_
  refine lv_iload_n hx hb dL_law_458 rfl (lv_at hl 3 rfl) ?_
  refine lv_iconst (v := 1) hx hb dL_law_459 (by decide) ?_
  refine n_iadd (x := i) (y := 1) hx hb dL_law_460 ?_
  refine va_sld hx hb hX hbl hbA hS (vp_in_nI (by omega) (by omega)) dL_law_461 ?_
  refine lv_aload_n hx hb dL_law_462 rfl (lv_at hl 0 rfl) ?_
  refine lv_iload_n hx hb dL_law_463 rfl (lv_at hl 3 rfl) ?_
  refine lv_iconst (v := 2) hx hb dL_law_464 (by decide) ?_
  refine n_iadd (x := i) (y := 2) hx hb dL_law_465 ?_
  refine va_sld hx hb hX hbl hbA hS (vp_in_nI (by omega) (by omega)) dL_law_466 ?_
  refine lv_aload_n hx hb dL_law_467 rfl (lv_at hl 0 rfl) ?_
  refine lv_iload_n hx hb dL_law_468 rfl (lv_at hl 3 rfl) ?_
  refine lv_iconst (v := 3) hx hb dL_law_469 (by decide) ?_
  refine n_iadd (x := i) (y := 3) hx hb dL_law_470 ?_
  refine va_sld hx hb hX hbl hbA hS (vp_in_nI (by omega) (by omega)) dL_law_471 ?_
  refine rwVl2 (As := [.int (xs (nI (i + 1)).toNatClampNeg), .int (xs (nI (i + 2)).toNatClampNeg), .int (xs (nI (i + 3)).toNatClampNeg)]) (rest := []) ⟨hx, hb, hml, hown, hts⟩ (c_X6_table l D cI cL cZ cO H.size o q ja ta n nw full pr R L kn lp ch me ru wo mb lf (xs (nI (i + 1)).toNatClampNeg) (xs (nI (i + 2)).toNatClampNeg) (xs (nI (i + 3)).toNatClampNeg) hI.2.2.2.1 hI.2.2.2.2.1) (cwV 3 hts gL_law_X6_table rfl rfl rfl (by decide +kernel) ⟨Nat.le_of_ble_eq_true rfl, Nat.le_of_ble_eq_true rfl⟩) hO hP1 hP2 hD hS hA (va_recv hO.1 hP1 (ci := 5) (q0 := 0) rfl rfl) rfl hl.1 rfl (Nat.le_of_ble_eq_true rfl) dL_law_472 ⟨Nat.le_trans (Nat.le_add_right _ _) hcl.1, Nat.le_trans (Nat.le_add_right _ _) hcl.2⟩ (fun r1 u1 H locs e1 hP1 hP2 hD hS => ?_)
  refine lv_aload_n hx hb dL_law_475 rfl (lv_at hl 2 rfl) ?_
  refine lv_aload_n hx hb dL_law_476 rfl (lv_at hl 0 rfl) ?_
  refine lv_iload_n hx hb dL_law_477 rfl (lv_at hl 3 rfl) ?_
  refine lv_iconst (v := 1) hx hb dL_law_478 (by decide) ?_
  refine n_iadd (x := i) (y := 1) hx hb dL_law_479 ?_
  refine va_sld hx hb hX hbl hbA hS (vp_in_nI (by omega) (by omega)) dL_law_480 ?_
  refine lv_aload_n hx hb dL_law_481 rfl (lv_at hl 0 rfl) ?_
  refine lv_iload_n hx hb dL_law_482 rfl (lv_at hl 3 rfl) ?_
  refine lv_iconst (v := 2) hx hb dL_law_483 (by decide) ?_
  refine n_iadd (x := i) (y := 2) hx hb dL_law_484 ?_
  refine va_sld hx hb hX hbl hbA hS (vp_in_nI (by omega) (by omega)) dL_law_485 ?_
  refine lv_aload_n hx hb dL_law_486 rfl (lv_at hl 0 rfl) ?_
  refine lv_iload_n hx hb dL_law_487 rfl (lv_at hl 3 rfl) ?_
  refine lv_iconst (v := 3) hx hb dL_law_488 (by decide) ?_
  refine n_iadd (x := i) (y := 3) hx hb dL_law_489 ?_
  refine va_sld hx hb hX hbl hbA hS (vp_in_nI (by omega) (by omega)) dL_law_490 ?_
  refine rwVl2 (As := [.int (xs (nI (i + 1)).toNatClampNeg), .int (xs (nI (i + 2)).toNatClampNeg), .int (xs (nI (i + 3)).toNatClampNeg)]) (rest := [.long r1]) ⟨hx, hb, hml, hown, hts⟩ (c_X7_table l D cI cL cZ cO H.size a r (nI nw) full (nI n) pr R lp' ch' me' ru' wo' co L (xs (nI (i + 1)).toNatClampNeg) (xs (nI (i + 2)).toNatClampNeg) (xs (nI (i + 3)).toNatClampNeg) hI.2.2.2.1) (cwV 3 hts gL_law_X7_table rfl rfl rfl (by decide +kernel) ⟨Nat.le_of_ble_eq_true rfl, Nat.le_of_ble_eq_true rfl⟩) hO hP2 hP1 (va_D_cm hD) hS hA (va_recv hO.1 hP2 (ci := 6) (q0 := 0) rfl rfl) rfl hl.1 rfl (Nat.le_of_ble_eq_true rfl) dL_law_491 ⟨Nat.le_trans (Nat.le_add_right _ _) hcl.1, Nat.le_trans (Nat.le_add_right _ _) hcl.2⟩ (fun r2 u2 H locs e2 hP2 hP1 hD hS => ?_)
  refine W.lcmp hx hb dL_law_494 ?_
  refine lv_if_eq (tgt := 686) hx hb dL_law_495 (by decide) (fun _ => ?_) (fun c9 => absurd (lgc_eq.mpr ((e1.1.trans (table_congr hI.2.2.2.1 hI.2.2.2.2.2 _ _ _)).trans e2.symm)) c9)
  refine W.widen (k := cells + 2) (n := slots + 24) (by omega) (by omega) ?_
  exact K _ _ ⟨_, _, _, _, _, _, _, _, _, _, _, _, _, _, _, _, _, _, _, _, _, _, _, _, LI_table hI e1.2, hP1, hP2, (va_D_cm hD)⟩ hS
set_option maxHeartbeats 4000000 in
set_option maxRecDepth 100000 in
theorem lw_k10 {p : Program} {l : Launch} {e : Env} {s : State} {m : MethodId} {below : List Frame} {meth : Method} {c : Code} {b Ls i cells slots : Nat} {xs : Nat → Int32} {D : va_G} {cI cL cZ cO : ClassId} {o a : Nat} {H : Heap} {locs : List Loc} {ls : Array Slot} {Q : State → Prop} (C0 : lw_At p s m meth c b Ls xs) (hO : Okk D cI cL cZ cO s) (hi : i + 6 ≤ Ls) (hLs : Ls ≤ 3072) (hcl : cells + 2 ≤ room_1.cells ∧ slots + 24 ≤ room_1.slots) (hw : LW D cI cL cZ cO (hpA s) o a H) (hS : va_S (hpA s) s.heap H locs) (hl : lv_has ls 4 [(0, .ref b), (1, .ref o), (2, .ref a), (3, .int (nI i))]) (K : ∀ (H : Heap) (locs : List Loc), LW D cI cL cZ cO (hpA s) o a H → va_S (hpA s) s.heap H locs → W p l e room_1 s m #[Value.ref b] below meth c H locs (cells + 2) (slots + 24) Q (F0 m 686 ls [])) : W p l e room_1 s m #[Value.ref b] below meth c H locs cells slots Q (F0 m 500 ls []) := by
  obtain ⟨hx, hb, hr, hml, hown, hts0, hX, hbl, hlocks, hgv⟩ := C0
  have hown : s.vm.findClass RL = some m.cls := hown
  have hts : ∀ w ∈ wsL_law, w.before #[Value.ref b] s = true := fun w h => hts0 w (wsL_law_in w h)
  have hA : ∀ q : Nat, s.heap.size ≤ q → hpA s q := fun _ h => h
  have hbA : ¬ hpA s b := Nat.not_le.mpr hbl
  obtain ⟨q, ja, ta, n, nw, full, pr, R, L, kn, lp, ch, me, ru, wo, mb, lf, r, lp', ch', me', ru', wo', co, hI, hP1, hP2, hD⟩ := hw
  refine lv_aload_n hx hb dL_law_500 rfl (lv_at hl 1 rfl) ?_
  refine lv_aload_n hx hb dL_law_501 rfl (lv_at hl 0 rfl) ?_
  refine lv_iload_n hx hb dL_law_502 rfl (lv_at hl 3 rfl) ?_
  refine lv_iconst (v := 1) hx hb dL_law_503 (by decide) ?_
  refine n_iadd (x := i) (y := 1) hx hb dL_law_504 ?_
  refine va_sld hx hb hX hbl hbA hS (vp_in_nI (by omega) (by omega)) dL_law_505 ?_
  refine lv_aload_n hx hb dL_law_506 rfl (lv_at hl 0 rfl) ?_
  refine lv_iload_n hx hb dL_law_507 rfl (lv_at hl 3 rfl) ?_
  refine lv_iconst (v := 2) hx hb dL_law_508 (by decide) ?_
  refine n_iadd (x := i) (y := 2) hx hb dL_law_509 ?_
  refine va_sld hx hb hX hbl hbA hS (vp_in_nI (by omega) (by omega)) dL_law_510 ?_
  refine lv_aload_n hx hb dL_law_511 rfl (lv_at hl 0 rfl) ?_
  refine lv_iload_n hx hb dL_law_512 rfl (lv_at hl 3 rfl) ?_
  refine lv_iconst (v := 3) hx hb dL_law_513 (by decide) ?_
  refine n_iadd (x := i) (y := 3) hx hb dL_law_514 ?_
  refine va_sld hx hb hX hbl hbA hS (vp_in_nI (by omega) (by omega)) dL_law_515 ?_
  refine rwVi2 (As := [.int (xs (nI (i + 1)).toNatClampNeg), .int (xs (nI (i + 2)).toNatClampNeg), .int (xs (nI (i + 3)).toNatClampNeg)]) (rest := []) ⟨hx, hb, hml, hown, hts⟩ (c_X6_rule l D cI cL cZ cO H.size o q ja ta n nw full pr R L kn lp ch me ru wo mb lf (xs (nI (i + 1)).toNatClampNeg) (xs (nI (i + 2)).toNatClampNeg) (xs (nI (i + 3)).toNatClampNeg) hI.2.2.2.1 hI.2.2.2.2.1) (cwV 3 hts gL_law_X6_rule rfl rfl rfl (by decide +kernel) ⟨Nat.le_of_ble_eq_true rfl, Nat.le_of_ble_eq_true rfl⟩) hO hP1 hP2 hD hS hA (va_recv hO.1 hP1 (ci := 5) (q0 := 0) rfl rfl) rfl hl.1 rfl (Nat.le_of_ble_eq_true rfl) dL_law_516 ⟨Nat.le_trans (Nat.le_add_right _ _) hcl.1, Nat.le_trans (Nat.le_add_right _ _) hcl.2⟩ (fun r1 u1 H locs e1 hP1 hP2 hD hS => ?_)
  refine lv_aload_n hx hb dL_law_519 rfl (lv_at hl 2 rfl) ?_
  refine lv_aload_n hx hb dL_law_520 rfl (lv_at hl 0 rfl) ?_
  refine lv_iload_n hx hb dL_law_521 rfl (lv_at hl 3 rfl) ?_
  refine lv_iconst (v := 1) hx hb dL_law_522 (by decide) ?_
  refine n_iadd (x := i) (y := 1) hx hb dL_law_523 ?_
  refine va_sld hx hb hX hbl hbA hS (vp_in_nI (by omega) (by omega)) dL_law_524 ?_
  refine lv_aload_n hx hb dL_law_525 rfl (lv_at hl 0 rfl) ?_
  refine lv_iload_n hx hb dL_law_526 rfl (lv_at hl 3 rfl) ?_
  refine lv_iconst (v := 2) hx hb dL_law_527 (by decide) ?_
  refine n_iadd (x := i) (y := 2) hx hb dL_law_528 ?_
  refine va_sld hx hb hX hbl hbA hS (vp_in_nI (by omega) (by omega)) dL_law_529 ?_
  refine lv_aload_n hx hb dL_law_530 rfl (lv_at hl 0 rfl) ?_
  refine lv_iload_n hx hb dL_law_531 rfl (lv_at hl 3 rfl) ?_
  refine lv_iconst (v := 3) hx hb dL_law_532 (by decide) ?_
  refine n_iadd (x := i) (y := 3) hx hb dL_law_533 ?_
  refine va_sld hx hb hX hbl hbA hS (vp_in_nI (by omega) (by omega)) dL_law_534 ?_
  refine rwVi2 (As := [.int (xs (nI (i + 1)).toNatClampNeg), .int (xs (nI (i + 2)).toNatClampNeg), .int (xs (nI (i + 3)).toNatClampNeg)]) (rest := [.int r1]) ⟨hx, hb, hml, hown, hts⟩ (c_X7_rule l D cI cL cZ cO H.size a r (nI nw) full (nI n) pr R lp' ch' me' ru' wo' co L (xs (nI (i + 1)).toNatClampNeg) (xs (nI (i + 2)).toNatClampNeg) (xs (nI (i + 3)).toNatClampNeg) hI.2.2.2.1) (cwV 3 hts gL_law_X7_rule rfl rfl rfl (by decide +kernel) ⟨Nat.le_of_ble_eq_true rfl, Nat.le_of_ble_eq_true rfl⟩) hO hP2 hP1 (va_D_cm hD) hS hA (va_recv hO.1 hP2 (ci := 6) (q0 := 0) rfl rfl) rfl hl.1 rfl (Nat.le_of_ble_eq_true rfl) dL_law_535 ⟨Nat.le_trans (Nat.le_add_right _ _) hcl.1, Nat.le_trans (Nat.le_add_right _ _) hcl.2⟩ (fun r2 u2 H locs e2 hP2 hP1 hD hS => ?_)
  refine lv_icmp_eq (tgt := 686) hx hb dL_law_538 (by decide) (fun _ => ?_) (fun c9 => absurd ((e1.1.trans (rule_congr hI.2.2.2.1 hI.2.2.2.2.2 _ _ _)).trans e2.symm) c9)
  refine W.widen (k := cells + 2) (n := slots + 24) (by omega) (by omega) ?_
  exact K _ _ ⟨_, _, _, _, _, _, _, _, _, _, _, _, _, _, _, _, _, _, _, _, _, _, _, _, LI_table hI e1.2, hP1, hP2, (va_D_cm hD)⟩ hS
set_option maxHeartbeats 4000000 in
set_option maxRecDepth 100000 in
theorem lw_k11 {p : Program} {l : Launch} {e : Env} {s : State} {m : MethodId} {below : List Frame} {meth : Method} {c : Code} {b Ls i cells slots : Nat} {xs : Nat → Int32} {D : va_G} {cI cL cZ cO : ClassId} {o a : Nat} {H : Heap} {locs : List Loc} {ls : Array Slot} {Q : State → Prop} (C0 : lw_At p s m meth c b Ls xs) (hO : Okk D cI cL cZ cO s) (hi : i + 6 ≤ Ls) (hLs : Ls ≤ 3072) (hcl : cells + 2 ≤ room_1.cells ∧ slots + 24 ≤ room_1.slots) (hw : LW D cI cL cZ cO (hpA s) o a H) (hS : va_S (hpA s) s.heap H locs) (hl : lv_has ls 4 [(0, .ref b), (1, .ref o), (2, .ref a), (3, .int (nI i))]) (K : ∀ (H : Heap) (locs : List Loc), LW D cI cL cZ cO (hpA s) o a H → va_S (hpA s) s.heap H locs → W p l e room_1 s m #[Value.ref b] below meth c H locs (cells + 2) (slots + 24) Q (F0 m 686 ls [])) : W p l e room_1 s m #[Value.ref b] below meth c H locs cells slots Q (F0 m 543 ls []) := by
  obtain ⟨hx, hb, hr, hml, hown, hts0, hX, hbl, hlocks, hgv⟩ := C0
  have hown : s.vm.findClass RL = some m.cls := hown
  have hts : ∀ w ∈ wsL_law, w.before #[Value.ref b] s = true := fun w h => hts0 w (wsL_law_in w h)
  have hA : ∀ q : Nat, s.heap.size ≤ q → hpA s q := fun _ h => h
  have hbA : ¬ hpA s b := Nat.not_le.mpr hbl
  obtain ⟨q, ja, ta, n, nw, full, pr, R, L, kn, lp, ch, me, ru, wo, mb, lf, r, lp', ch', me', ru', wo', co, hI, hP1, hP2, hD⟩ := hw
  refine lv_aload_n hx hb dL_law_543 rfl (lv_at hl 1 rfl) ?_
  refine lv_aload_n hx hb dL_law_544 rfl (lv_at hl 0 rfl) ?_
  refine lv_iload_n hx hb dL_law_545 rfl (lv_at hl 3 rfl) ?_
  refine lv_iconst (v := 1) hx hb dL_law_546 (by decide) ?_
  refine n_iadd (x := i) (y := 1) hx hb dL_law_547 ?_
  refine va_sld hx hb hX hbl hbA hS (vp_in_nI (by omega) (by omega)) dL_law_548 ?_
  refine lv_aload_n hx hb dL_law_549 rfl (lv_at hl 0 rfl) ?_
  refine lv_iload_n hx hb dL_law_550 rfl (lv_at hl 3 rfl) ?_
  refine lv_iconst (v := 2) hx hb dL_law_551 (by decide) ?_
  refine n_iadd (x := i) (y := 2) hx hb dL_law_552 ?_
  refine va_sld hx hb hX hbl hbA hS (vp_in_nI (by omega) (by omega)) dL_law_553 ?_
  refine lv_aload_n hx hb dL_law_554 rfl (lv_at hl 0 rfl) ?_
  refine lv_iload_n hx hb dL_law_555 rfl (lv_at hl 3 rfl) ?_
  refine lv_iconst (v := 3) hx hb dL_law_556 (by decide) ?_
  refine n_iadd (x := i) (y := 3) hx hb dL_law_557 ?_
  refine va_sld hx hb hX hbl hbA hS (vp_in_nI (by omega) (by omega)) dL_law_558 ?_
  refine rwVi2 (As := [.int (xs (nI (i + 1)).toNatClampNeg), .int (xs (nI (i + 2)).toNatClampNeg), .int (xs (nI (i + 3)).toNatClampNeg)]) (rest := []) ⟨hx, hb, hml, hown, hts⟩ (c_X6_worst l D cI cL cZ cO H.size o q ja ta n nw full pr R L kn lp ch me ru wo mb lf (xs (nI (i + 1)).toNatClampNeg) (xs (nI (i + 2)).toNatClampNeg) (xs (nI (i + 3)).toNatClampNeg) hI.2.2.2.1 hI.2.2.2.2.1) (cwV 3 hts gL_law_X6_worst rfl rfl rfl (by decide +kernel) ⟨Nat.le_of_ble_eq_true rfl, Nat.le_of_ble_eq_true rfl⟩) hO hP1 hP2 hD hS hA (va_recv hO.1 hP1 (ci := 5) (q0 := 0) rfl rfl) rfl hl.1 rfl (Nat.le_of_ble_eq_true rfl) dL_law_559 ⟨Nat.le_trans (Nat.le_add_right _ _) hcl.1, Nat.le_trans (Nat.le_add_right _ _) hcl.2⟩ (fun r1 u1 H locs e1 hP1 hP2 hD hS => ?_)
  refine lv_aload_n hx hb dL_law_562 rfl (lv_at hl 2 rfl) ?_
  refine lv_aload_n hx hb dL_law_563 rfl (lv_at hl 0 rfl) ?_
  refine lv_iload_n hx hb dL_law_564 rfl (lv_at hl 3 rfl) ?_
  refine lv_iconst (v := 1) hx hb dL_law_565 (by decide) ?_
  refine n_iadd (x := i) (y := 1) hx hb dL_law_566 ?_
  refine va_sld hx hb hX hbl hbA hS (vp_in_nI (by omega) (by omega)) dL_law_567 ?_
  refine lv_aload_n hx hb dL_law_568 rfl (lv_at hl 0 rfl) ?_
  refine lv_iload_n hx hb dL_law_569 rfl (lv_at hl 3 rfl) ?_
  refine lv_iconst (v := 2) hx hb dL_law_570 (by decide) ?_
  refine n_iadd (x := i) (y := 2) hx hb dL_law_571 ?_
  refine va_sld hx hb hX hbl hbA hS (vp_in_nI (by omega) (by omega)) dL_law_572 ?_
  refine lv_aload_n hx hb dL_law_573 rfl (lv_at hl 0 rfl) ?_
  refine lv_iload_n hx hb dL_law_574 rfl (lv_at hl 3 rfl) ?_
  refine lv_iconst (v := 3) hx hb dL_law_575 (by decide) ?_
  refine n_iadd (x := i) (y := 3) hx hb dL_law_576 ?_
  refine va_sld hx hb hX hbl hbA hS (vp_in_nI (by omega) (by omega)) dL_law_577 ?_
  refine rwVi2 (As := [.int (xs (nI (i + 1)).toNatClampNeg), .int (xs (nI (i + 2)).toNatClampNeg), .int (xs (nI (i + 3)).toNatClampNeg)]) (rest := [.int r1]) ⟨hx, hb, hml, hown, hts⟩ (c_X7_worst l D cI cL cZ cO H.size a r (nI nw) full (nI n) pr R lp' ch' me' ru' wo' co L (xs (nI (i + 1)).toNatClampNeg) (xs (nI (i + 2)).toNatClampNeg) (xs (nI (i + 3)).toNatClampNeg) hI.2.2.2.1) (cwV 3 hts gL_law_X7_worst rfl rfl rfl (by decide +kernel) ⟨Nat.le_of_ble_eq_true rfl, Nat.le_of_ble_eq_true rfl⟩) hO hP2 hP1 (va_D_cm hD) hS hA (va_recv hO.1 hP2 (ci := 6) (q0 := 0) rfl rfl) rfl hl.1 rfl (Nat.le_of_ble_eq_true rfl) dL_law_578 ⟨Nat.le_trans (Nat.le_add_right _ _) hcl.1, Nat.le_trans (Nat.le_add_right _ _) hcl.2⟩ (fun r2 u2 H locs e2 hP2 hP1 hD hS => ?_)
  refine lv_icmp_eq (tgt := 686) hx hb dL_law_581 (by decide) (fun _ => ?_) (fun c9 => absurd ((e1.1.trans (worst_congr hI.2.2.2.1 hI.2.2.2.2.2 _ _ _)).trans e2.symm) c9)
  refine W.widen (k := cells + 2) (n := slots + 24) (by omega) (by omega) ?_
  exact K _ _ ⟨_, _, _, _, _, _, _, _, _, _, _, _, _, _, _, _, _, _, _, _, _, _, _, _, LI_table hI e1.2, hP1, hP2, (va_D_cm hD)⟩ hS
set_option maxHeartbeats 4000000 in
set_option maxRecDepth 100000 in
theorem lw_k12 {p : Program} {l : Launch} {e : Env} {s : State} {m : MethodId} {below : List Frame} {meth : Method} {c : Code} {b Ls i cells slots : Nat} {xs : Nat → Int32} {D : va_G} {cI cL cZ cO : ClassId} {o a : Nat} {H : Heap} {locs : List Loc} {ls : Array Slot} {Q : State → Prop} (C0 : lw_At p s m meth c b Ls xs) (hO : Okk D cI cL cZ cO s) (hi : i + 6 ≤ Ls) (hLs : Ls ≤ 3072) (hcl : cells + 2 ≤ room_1.cells ∧ slots + 24 ≤ room_1.slots) (hw : LW D cI cL cZ cO (hpA s) o a H) (hS : va_S (hpA s) s.heap H locs) (hl : lv_has ls 4 [(0, .ref b), (1, .ref o), (2, .ref a), (3, .int (nI i))]) (K : ∀ (H : Heap) (locs : List Loc), LW D cI cL cZ cO (hpA s) o a H → va_S (hpA s) s.heap H locs → W p l e room_1 s m #[Value.ref b] below meth c H locs (cells + 2) (slots + 24) Q (F0 m 686 ls [])) : W p l e room_1 s m #[Value.ref b] below meth c H locs cells slots Q (F0 m 586 ls []) := by
  obtain ⟨hx, hb, hr, hml, hown, hts0, hX, hbl, hlocks, hgv⟩ := C0
  have hown : s.vm.findClass RL = some m.cls := hown
  have hts : ∀ w ∈ wsL_law, w.before #[Value.ref b] s = true := fun w h => hts0 w (wsL_law_in w h)
  have hA : ∀ q : Nat, s.heap.size ≤ q → hpA s q := fun _ h => h
  have hbA : ¬ hpA s b := Nat.not_le.mpr hbl
  obtain ⟨q, ja, ta, n, nw, full, pr, R, L, kn, lp, ch, me, ru, wo, mb, lf, r, lp', ch', me', ru', wo', co, hI, hP1, hP2, hD⟩ := hw
  refine lv_aload_n hx hb dL_law_586 rfl (lv_at hl 1 rfl) ?_
  refine lv_aload_n hx hb dL_law_587 rfl (lv_at hl 0 rfl) ?_
  refine lv_iload_n hx hb dL_law_588 rfl (lv_at hl 3 rfl) ?_
  refine lv_iconst (v := 1) hx hb dL_law_589 (by decide) ?_
  refine n_iadd (x := i) (y := 1) hx hb dL_law_590 ?_
  refine va_sld hx hb hX hbl hbA hS (vp_in_nI (by omega) (by omega)) dL_law_591 ?_
  refine lv_aload_n hx hb dL_law_592 rfl (lv_at hl 0 rfl) ?_
  refine lv_iload_n hx hb dL_law_593 rfl (lv_at hl 3 rfl) ?_
  refine lv_iconst (v := 2) hx hb dL_law_594 (by decide) ?_
  refine n_iadd (x := i) (y := 2) hx hb dL_law_595 ?_
  refine va_sld hx hb hX hbl hbA hS (vp_in_nI (by omega) (by omega)) dL_law_596 ?_
  refine lv_aload_n hx hb dL_law_597 rfl (lv_at hl 0 rfl) ?_
  refine lv_iload_n hx hb dL_law_598 rfl (lv_at hl 3 rfl) ?_
  refine lv_iconst (v := 3) hx hb dL_law_599 (by decide) ?_
  refine n_iadd (x := i) (y := 3) hx hb dL_law_600 ?_
  refine va_sld hx hb hX hbl hbA hS (vp_in_nI (by omega) (by omega)) dL_law_601 ?_
  refine lv_aload_n hx hb dL_law_602 rfl (lv_at hl 0 rfl) ?_
  refine lv_iload_n hx hb dL_law_603 rfl (lv_at hl 3 rfl) ?_
  refine lv_iconst (v := 4) hx hb dL_law_604 (by decide) ?_
  refine n_iadd (x := i) (y := 4) hx hb dL_law_605 ?_
  refine va_sld hx hb hX hbl hbA hS (vp_in_nI (by omega) (by omega)) dL_law_606 ?_
  refine rwVl2 (As := [.int (xs (nI (i + 1)).toNatClampNeg), .int (xs (nI (i + 2)).toNatClampNeg), .int (xs (nI (i + 3)).toNatClampNeg), .int (xs (nI (i + 4)).toNatClampNeg)]) (rest := []) ⟨hx, hb, hml, hown, hts⟩ (c_X6_capped l D cI cL cZ cO H.size o q ja ta n nw full pr R L kn lp ch me ru wo mb lf (xs (nI (i + 1)).toNatClampNeg) (xs (nI (i + 2)).toNatClampNeg) (xs (nI (i + 3)).toNatClampNeg) (xs (nI (i + 4)).toNatClampNeg) hI.2.2.2.1) (cwV 4 hts gL_law_X6_capped rfl rfl rfl (by decide +kernel) ⟨Nat.le_of_ble_eq_true rfl, Nat.le_of_ble_eq_true rfl⟩) hO hP1 hP2 hD hS hA (va_recv hO.1 hP1 (ci := 5) (q0 := 0) rfl rfl) rfl hl.1 rfl (Nat.le_of_ble_eq_true rfl) dL_law_607 ⟨Nat.le_trans (Nat.le_add_right _ _) hcl.1, Nat.le_trans (Nat.le_add_right _ _) hcl.2⟩ (fun r1 u1 H locs e1 hP1 hP2 hD hS => ?_)
  refine lv_aload_n hx hb dL_law_610 rfl (lv_at hl 2 rfl) ?_
  refine lv_aload_n hx hb dL_law_611 rfl (lv_at hl 0 rfl) ?_
  refine lv_iload_n hx hb dL_law_612 rfl (lv_at hl 3 rfl) ?_
  refine lv_iconst (v := 1) hx hb dL_law_613 (by decide) ?_
  refine n_iadd (x := i) (y := 1) hx hb dL_law_614 ?_
  refine va_sld hx hb hX hbl hbA hS (vp_in_nI (by omega) (by omega)) dL_law_615 ?_
  refine lv_aload_n hx hb dL_law_616 rfl (lv_at hl 0 rfl) ?_
  refine lv_iload_n hx hb dL_law_617 rfl (lv_at hl 3 rfl) ?_
  refine lv_iconst (v := 2) hx hb dL_law_618 (by decide) ?_
  refine n_iadd (x := i) (y := 2) hx hb dL_law_619 ?_
  refine va_sld hx hb hX hbl hbA hS (vp_in_nI (by omega) (by omega)) dL_law_620 ?_
  refine lv_aload_n hx hb dL_law_621 rfl (lv_at hl 0 rfl) ?_
  refine lv_iload_n hx hb dL_law_622 rfl (lv_at hl 3 rfl) ?_
  refine lv_iconst (v := 3) hx hb dL_law_623 (by decide) ?_
  refine n_iadd (x := i) (y := 3) hx hb dL_law_624 ?_
  refine va_sld hx hb hX hbl hbA hS (vp_in_nI (by omega) (by omega)) dL_law_625 ?_
  refine lv_aload_n hx hb dL_law_626 rfl (lv_at hl 0 rfl) ?_
  refine lv_iload_n hx hb dL_law_627 rfl (lv_at hl 3 rfl) ?_
  refine lv_iconst (v := 4) hx hb dL_law_628 (by decide) ?_
  refine n_iadd (x := i) (y := 4) hx hb dL_law_629 ?_
  refine va_sld hx hb hX hbl hbA hS (vp_in_nI (by omega) (by omega)) dL_law_630 ?_
  refine rwVl2 (As := [.int (xs (nI (i + 1)).toNatClampNeg), .int (xs (nI (i + 2)).toNatClampNeg), .int (xs (nI (i + 3)).toNatClampNeg), .int (xs (nI (i + 4)).toNatClampNeg)]) (rest := [.long r1]) ⟨hx, hb, hml, hown, hts⟩ (c_X7_capped l D cI cL cZ cO H.size a r (nI nw) full (nI n) pr R lp' ch' me' ru' wo' co L (xs (nI (i + 1)).toNatClampNeg) (xs (nI (i + 2)).toNatClampNeg) (xs (nI (i + 3)).toNatClampNeg) (xs (nI (i + 4)).toNatClampNeg) hI.2.2.2.1) (cwV 4 hts gL_law_X7_capped rfl rfl rfl (by decide +kernel) ⟨Nat.le_of_ble_eq_true rfl, Nat.le_of_ble_eq_true rfl⟩) hO hP2 hP1 (va_D_cm hD) hS hA (va_recv hO.1 hP2 (ci := 6) (q0 := 0) rfl rfl) rfl hl.1 rfl (Nat.le_of_ble_eq_true rfl) dL_law_631 ⟨Nat.le_trans (Nat.le_add_right _ _) hcl.1, Nat.le_trans (Nat.le_add_right _ _) hcl.2⟩ (fun r2 u2 H locs e2 hP2 hP1 hD hS => ?_)
  refine W.lcmp hx hb dL_law_634 ?_
  refine lv_if_eq (tgt := 686) hx hb dL_law_635 (by decide) (fun _ => ?_) (fun c9 => absurd (lgc_eq.mpr ((e1.trans (capped_congr hI.2.2.2.1 hI.2.2.2.2.2 _ _ _ _)).trans e2.symm)) c9)
  refine W.widen (k := cells + 2) (n := slots + 24) (by omega) (by omega) ?_
  exact K _ _ ⟨_, _, _, _, _, _, _, _, _, _, _, _, _, _, _, _, _, _, _, _, _, _, _, _, hI, hP1, hP2, (va_D_cm hD)⟩ hS
set_option maxHeartbeats 4000000 in
set_option maxRecDepth 100000 in
theorem lw_k13 {p : Program} {l : Launch} {e : Env} {s : State} {m : MethodId} {below : List Frame} {meth : Method} {c : Code} {b Ls i cells slots : Nat} {xs : Nat → Int32} {D : va_G} {cI cL cZ cO : ClassId} {o a : Nat} {H : Heap} {locs : List Loc} {ls : Array Slot} {Q : State → Prop} (C0 : lw_At p s m meth c b Ls xs) (hO : Okk D cI cL cZ cO s) (hi : i + 6 ≤ Ls) (hLs : Ls ≤ 3072) (hcl : cells + 2 ≤ room_1.cells ∧ slots + 24 ≤ room_1.slots) (hw : LW D cI cL cZ cO (hpA s) o a H) (hS : va_S (hpA s) s.heap H locs) (hl : lv_has ls 4 [(0, .ref b), (1, .ref o), (2, .ref a), (3, .int (nI i))]) (K : ∀ (H : Heap) (locs : List Loc), LW D cI cL cZ cO (hpA s) o a H → va_S (hpA s) s.heap H locs → W p l e room_1 s m #[Value.ref b] below meth c H locs (cells + 2) (slots + 24) Q (F0 m 686 ls [])) : W p l e room_1 s m #[Value.ref b] below meth c H locs cells slots Q (F0 m 640 ls []) := by
  obtain ⟨hx, hb, hr, hml, hown, hts0, hX, hbl, hlocks, hgv⟩ := C0
  have hown : s.vm.findClass RL = some m.cls := hown
  have hts : ∀ w ∈ wsL_law, w.before #[Value.ref b] s = true := fun w h => hts0 w (wsL_law_in w h)
  have hA : ∀ q : Nat, s.heap.size ≤ q → hpA s q := fun _ h => h
  have hbA : ¬ hpA s b := Nat.not_le.mpr hbl
  obtain ⟨q, ja, ta, n, nw, full, pr, R, L, kn, lp, ch, me, ru, wo, mb, lf, r, lp', ch', me', ru', wo', co, hI, hP1, hP2, hD⟩ := hw
  refine lv_aload_n hx hb dL_law_640 rfl (lv_at hl 1 rfl) ?_
  refine lv_aload_n hx hb dL_law_641 rfl (lv_at hl 0 rfl) ?_
  refine lv_iload_n hx hb dL_law_642 rfl (lv_at hl 3 rfl) ?_
  refine lv_iconst (v := 1) hx hb dL_law_643 (by decide) ?_
  refine n_iadd (x := i) (y := 1) hx hb dL_law_644 ?_
  refine va_sld hx hb hX hbl hbA hS (vp_in_nI (by omega) (by omega)) dL_law_645 ?_
  refine rwVi2 (As := [.int (xs (nI (i + 1)).toNatClampNeg)]) (rest := []) ⟨hx, hb, hml, hown, hts⟩ (c_X6_oracle l D cI cL cZ cO H.size o q ja ta n nw full pr R L kn lp ch me ru wo mb lf (xs (nI (i + 1)).toNatClampNeg) hI.1.1 hI.2.1.1 hI.2.2.1) (cwV 1 hts gL_law_X6_oracle rfl rfl rfl (by decide +kernel) ⟨Nat.le_of_ble_eq_true rfl, Nat.le_of_ble_eq_true rfl⟩) hO hP1 hP2 hD hS hA (va_recv hO.1 hP1 (ci := 5) (q0 := 0) rfl rfl) rfl hl.1 rfl (Nat.le_of_ble_eq_true rfl) dL_law_646 ⟨Nat.le_trans (Nat.le_add_right _ _) hcl.1, Nat.le_trans (Nat.le_add_right _ _) hcl.2⟩ (fun r1 u1 H locs e1 hP1 hP2 hD hS => ?_)
  refine lv_aload_n hx hb dL_law_649 rfl (lv_at hl 2 rfl) ?_
  refine lv_aload_n hx hb dL_law_650 rfl (lv_at hl 0 rfl) ?_
  refine lv_iload_n hx hb dL_law_651 rfl (lv_at hl 3 rfl) ?_
  refine lv_iconst (v := 1) hx hb dL_law_652 (by decide) ?_
  refine n_iadd (x := i) (y := 1) hx hb dL_law_653 ?_
  refine va_sld hx hb hX hbl hbA hS (vp_in_nI (by omega) (by omega)) dL_law_654 ?_
  refine rwVi2 (As := [.int (xs (nI (i + 1)).toNatClampNeg)]) (rest := [.int r1]) ⟨hx, hb, hml, hown, hts⟩ (c_X7_oracle l D cI cL cZ cO H.size a r (nI nw) full (nI L) pr R lp' ch' me' ru' wo' co n (xs (nI (i + 1)).toNatClampNeg) hI.1.1 hI.2.1.1 hI.2.2.1) (cwV 1 hts gL_law_X7_oracle rfl rfl rfl (by decide +kernel) ⟨Nat.le_of_ble_eq_true rfl, Nat.le_of_ble_eq_true rfl⟩) hO hP2 hP1 (va_D_cm hD) hS hA (va_recv hO.1 hP2 (ci := 6) (q0 := 0) rfl rfl) rfl hl.1 rfl (Nat.le_of_ble_eq_true rfl) dL_law_655 ⟨Nat.le_trans (Nat.le_add_right _ _) hcl.1, Nat.le_trans (Nat.le_add_right _ _) hcl.2⟩ (fun r2 u2 H locs e2 hP2 hP1 hD hS => ?_)
  refine lv_icmp_eq (tgt := 686) hx hb dL_law_658 (by decide) (fun _ => ?_) (fun c9 => absurd ((orc_eq hI.1.1 e2 e1).symm) c9)
  refine W.widen (k := cells + 2) (n := slots + 24) (by omega) (by omega) ?_
  exact K _ _ ⟨_, _, _, _, _, _, _, _, _, _, _, _, _, _, _, _, _, _, _, _, _, _, _, _, hI, hP1, hP2, (va_D_cm hD)⟩ hS
set_option maxHeartbeats 4000000 in
set_option maxRecDepth 100000 in
theorem lw_k14 {p : Program} {l : Launch} {e : Env} {s : State} {m : MethodId} {below : List Frame} {meth : Method} {c : Code} {b Ls i cells slots : Nat} {xs : Nat → Int32} {D : va_G} {cI cL cZ cO : ClassId} {o a : Nat} {H : Heap} {locs : List Loc} {ls : Array Slot} {Q : State → Prop} (C0 : lw_At p s m meth c b Ls xs) (hO : Okk D cI cL cZ cO s) (hi : i + 6 ≤ Ls) (hLs : Ls ≤ 3072) (hcl : cells + 2 ≤ room_1.cells ∧ slots + 24 ≤ room_1.slots) (hw : LW D cI cL cZ cO (hpA s) o a H) (hS : va_S (hpA s) s.heap H locs) (hl : lv_has ls 4 [(0, .ref b), (1, .ref o), (2, .ref a), (3, .int (nI i))]) (K : ∀ (H : Heap) (locs : List Loc), LW D cI cL cZ cO (hpA s) o a H → va_S (hpA s) s.heap H locs → W p l e room_1 s m #[Value.ref b] below meth c H locs (cells + 2) (slots + 24) Q (F0 m 686 ls [])) : W p l e room_1 s m #[Value.ref b] below meth c H locs cells slots Q (F0 m 663 ls []) := by
  obtain ⟨hx, hb, hr, hml, hown, hts0, hX, hbl, hlocks, hgv⟩ := C0
  have hown : s.vm.findClass RL = some m.cls := hown
  have hts : ∀ w ∈ wsL_law, w.before #[Value.ref b] s = true := fun w h => hts0 w (wsL_law_in w h)
  have hA : ∀ q : Nat, s.heap.size ≤ q → hpA s q := fun _ h => h
  have hbA : ¬ hpA s b := Nat.not_le.mpr hbl
  obtain ⟨q, ja, ta, n, nw, full, pr, R, L, kn, lp, ch, me, ru, wo, mb, lf, r, lp', ch', me', ru', wo', co, hI, hP1, hP2, hD⟩ := hw
  refine lv_aload_n hx hb dL_law_663 rfl (lv_at hl 1 rfl) ?_
  refine lv_aload_n hx hb dL_law_664 rfl (lv_at hl 0 rfl) ?_
  refine lv_iload_n hx hb dL_law_665 rfl (lv_at hl 3 rfl) ?_
  refine lv_iconst (v := 1) hx hb dL_law_666 (by decide) ?_
  refine n_iadd (x := i) (y := 1) hx hb dL_law_667 ?_
  refine va_sld hx hb hX hbl hbA hS (vp_in_nI (by omega) (by omega)) dL_law_668 ?_
  refine roVi (As := [.int (xs (nI (i + 1)).toNatClampNeg)]) (rest := []) ⟨hx, hb, hml, hown, hts⟩ (c_X6_count l D cI cL cZ cO o q ja ta n nw full pr R L kn lp ch me ru wo mb lf (xs (nI (i + 1)).toNatClampNeg) hI.1.1) (cwV 1 hts gL_law_X6_count rfl rfl rfl (by decide +kernel) ⟨Nat.le_of_ble_eq_true rfl, Nat.le_of_ble_eq_true rfl⟩) hO hP1 (va_recv hO.1 hP1 (ci := 5) (q0 := 0) rfl rfl) rfl hl.1 rfl (Nat.le_of_ble_eq_true rfl) dL_law_669 ⟨Nat.le_trans (Nat.le_add_right _ _) hcl.1, Nat.le_trans (Nat.le_add_right _ _) hcl.2⟩ (fun r1 e1 => ?_)
  refine lv_aload_n hx hb dL_law_672 rfl (lv_at hl 2 rfl) ?_
  refine lv_aload_n hx hb dL_law_673 rfl (lv_at hl 0 rfl) ?_
  refine lv_iload_n hx hb dL_law_674 rfl (lv_at hl 3 rfl) ?_
  refine lv_iconst (v := 1) hx hb dL_law_675 (by decide) ?_
  refine n_iadd (x := i) (y := 1) hx hb dL_law_676 ?_
  refine va_sld hx hb hX hbl hbA hS (vp_in_nI (by omega) (by omega)) dL_law_677 ?_
  refine roVi (As := [.int (xs (nI (i + 1)).toNatClampNeg)]) (rest := [.int r1]) ⟨hx, hb, hml, hown, hts⟩ (c_X7_count l D cI cL cZ cO a r full (nI L) pr R lp' ch' me' ru' wo' co nw n (xs (nI (i + 1)).toNatClampNeg) hI.1.1) (cwV 1 hts gL_law_X7_count rfl rfl rfl (by decide +kernel) ⟨Nat.le_of_ble_eq_true rfl, Nat.le_of_ble_eq_true rfl⟩) hO hP2 (va_recv hO.1 hP2 (ci := 6) (q0 := 0) rfl rfl) rfl hl.1 rfl (Nat.le_of_ble_eq_true rfl) dL_law_678 ⟨Nat.le_trans (Nat.le_add_right _ _) hcl.1, Nat.le_trans (Nat.le_add_right _ _) hcl.2⟩ (fun r2 e2 => ?_)
  refine lv_icmp_eq (tgt := 686) hx hb dL_law_681 (by decide) (fun _ => ?_) (fun c9 => absurd (e1.trans e2.symm) c9)
  refine W.widen (k := cells + 2) (n := slots + 24) (by omega) (by omega) ?_
  exact K _ _ ⟨_, _, _, _, _, _, _, _, _, _, _, _, _, _, _, _, _, _, _, _, _, _, _, _, hI, hP1, hP2, hD⟩ hS
