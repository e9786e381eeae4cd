theorem sw_out15 {x : Int32} (h0 : ¬ x = 0) (h1 : ¬ x = 1) (h2 : ¬ x = 2) (h3 : ¬ x = 3) (h4 : ¬ x = 4) (h5 : ¬ x = 5) (h6 : ¬ x = 6) (h7 : ¬ x = 7) (h8 : ¬ x = 8) (h9 : ¬ x = 9) (h10 : ¬ x = 10) (h11 : ¬ x = 11) (h12 : ¬ x = 12) (h13 : ¬ x = 13) (h14 : ¬ x = 14) : x.toInt < 0 ∨ 14 < x.toInt := by
  have a0 := sw_ne (a := 0) h0 (by decide)
  have a1 := sw_ne (a := 1) h1 (by decide)
  have a2 := sw_ne (a := 2) h2 (by decide)
  have a3 := sw_ne (a := 3) h3 (by decide)
  have a4 := sw_ne (a := 4) h4 (by decide)
  have a5 := sw_ne (a := 5) h5 (by decide)
  have a6 := sw_ne (a := 6) h6 (by decide)
  have a7 := sw_ne (a := 7) h7 (by decide)
  have a8 := sw_ne (a := 8) h8 (by decide)
  have a9 := sw_ne (a := 9) h9 (by decide)
  have a10 := sw_ne (a := 10) h10 (by decide)
  have a11 := sw_ne (a := 11) h11 (by decide)
  have a12 := sw_ne (a := 12) h12 (by decide)
  have a13 := sw_ne (a := 13) h13 (by decide)
  have a14 := sw_ne (a := 14) h14 (by decide)
  omega
theorem lw_more {Ls i : Nat} (hL : Ls ≤ 3072) (hi : i ≤ Ls) : nI Ls - 6 < nI i ↔ Ls < i + 6 := by
  rw [Int32.lt_iff_toInt_lt, show (nI Ls - 6).toInt = (Ls : Int) - 6 from pk_sub_toInt (b := 6) (by omega) (by decide), nI_toInt (by omega)]
  omega
theorem lw_room {k : Nat} (h : k ≤ 511) : 100 + 2 * k + 2 ≤ room_1.cells ∧ 20000 + 24 * k + 24 ≤ room_1.slots := by
  have e1 : room_1.cells = 600000 := rfl
  have e2 : room_1.slots = 7302250 := rfl
  rw [e1, e2]
  omega
set_option maxHeartbeats 4000000 in
set_option maxRecDepth 100000 in
/-- THE LAW'S LOOP -/
theorem law_loop {p : Program} {l : Launch} {e : Env} {s : State} {m : MethodId} {below : List Frame} {meth : Method} {c : Code} {b Ls : Nat} {xs : Nat → Int32} {D : va_G} {cI cL cZ cO : ClassId} {o a : Nat} (hLs : Ls ≤ 3072) (C0 : lw_At p s m meth c b Ls xs) (hO : Okk D cI cL cZ cO s) :
    ∀ (n k : Nat), 6 * k ≤ Ls → Ls < 6 * k + 6 * n → ∀ (H : Heap) (locs : List Loc), LW D cI cL cZ cO (hpA s) o a H → va_S (hpA s) s.heap H locs → ∀ (ls : Array Slot), lv_has ls 4 [(0, .ref b), (1, .ref o), (2, .ref a), (3, .int (nI (6 * k)))] → W p l e room_1 s m #[Value.ref b] below meth c H locs (100 + 2 * k) (20000 + 24 * k) (lw_Z below #[Value.ref b] s) (F0 m 18 ls []) := by
  obtain ⟨hx, hb, hr, hml, hown, hts0, hX, hbl, hlocks, hgv⟩ := id C0
  have hA : ∀ q : Nat, s.heap.size ≤ q → hpA s q := fun _ h => h
  have hbA : ¬ hpA s b := Nat.not_le.mpr hbl
  intro n
  induction n with
  | zero =>
    intro k h1 h2
    exact absurd h2 (by omega)
  | succ n ih =>
    intro k hk hn H locs hw hS ls hl
    refine lv_iload_n hx hb dL_law_18 rfl (lv_at hl 3 rfl) ?_
    refine lv_aload_n hx hb dL_law_19 rfl (lv_at hl 0 rfl) ?_
    refine va_slen hx hb hX hbl hbA hS dL_law_20 ?_
    refine lv_bipush (v := 6) hx hb dL_law_21 (by decide) ?_
    refine lv_isub hx hb dL_law_23 ?_
    refine lv_icmp_gt (tgt := 692) hx hb dL_law_24 (by decide) (fun c24 => ?_) (fun c24 => ?_)
    · refine lv_iconst (v := 1) hx hb dL_law_692 (by decide) ?_
      refine va_forget (fun q hq => hS.2.2 q hq) ?_
      refine W.widen (k := 600000) (n := 7302250) (by omega) (by omega) ?_
      exact lw_ret hx hb hr hlocks dL_law_693
    · have hi : 6 * k + 6 ≤ Ls := Nat.le_of_not_lt (fun q => c24 ((lw_more hLs hk).mpr q))
      refine lv_aload_n hx hb dL_law_27 rfl (lv_at hl 0 rfl) ?_
      refine lv_iload_n hx hb dL_law_28 rfl (lv_at hl 3 rfl) ?_
      refine va_sld hx hb hX hbl hbA hS (vp_in_nI (by omega) (by omega)) dL_law_29 ?_
      refine lv_bipush (v := 15) hx hb dL_law_30 (by decide) ?_
      refine lv_iand hx hb dL_law_32 ?_
      refine lv_topi (fun z ez => ?_)
      have hcl := lw_room (k := k) (by omega)
      have K : ∀ (H : Heap) (locs : List Loc), LW D cI cL cZ cO (hpA s) o a H → va_S (hpA s) s.heap H locs → W p l e room_1 s m #[Value.ref b] below meth c H locs (100 + 2 * k + 2) (20000 + 24 * k + 24) (lw_Z below #[Value.ref b] s) (F0 m 686 ls []) := by
        intro H locs hw hS
        refine lv_iinc (v := nI (6 * (k + 1))) (lv' := [(3, .int (nI (6 * (k + 1)))), (0, .ref b), (1, .ref o), (2, .ref a)]) hx hb dL_law_686 hl (k := 3) rfl (by rw [show 6 * (k + 1) = 6 * k + 6 by omega, ← nI_add]; rfl) (by decide) rfl (fun ls hl => ?_)
        refine lv_goto (tgt := 18) hx hb dL_law_689 (by decide) ?_
        have h9 := ih (k + 1) (by omega) (by omega) H locs hw hS ls (lv_sub hl [1, 2, 3, 0] rfl)
        rw [show 100 + 2 * (k + 1) = 100 + 2 * k + 2 by omega, show 20000 + 24 * (k + 1) = 20000 + 24 * k + 24 by omega] at h9
        exact h9
      by_cases h0 : z = 0
      · refine lv_tableIn (tgt := 108) hx hb dL_law_33 (by rw [h0]; decide) (by rw [h0]; decide) (by rw [h0]; rfl) (by decide) ?_
        exact lw_k0 C0 hO hi hLs hcl hw hS hl K
      by_cases h1 : z = 1
      · refine lv_tableIn (tgt := 161) hx hb dL_law_33 (by rw [h1]; decide) (by rw [h1]; decide) (by rw [h1]; rfl) (by decide) ?_
        exact lw_k1 C0 hO hi hLs hcl hw hS hl K
      by_cases h2 : z = 2
      · refine lv_tableIn (tgt := 184) hx hb dL_law_33 (by rw [h2]; decide) (by rw [h2]; decide) (by rw [h2]; rfl) (by decide) ?_
        exact lw_k2 C0 hO hi hLs hcl hw hS hl K
      by_cases h3 : z = 3
      · refine lv_tableIn (tgt := 227) hx hb dL_law_33 (by rw [h3]; decide) (by rw [h3]; decide) (by rw [h3]; rfl) (by decide) ?_
        exact lw_k3 C0 hO hi hLs hcl hw hS hl K
      by_cases h4 : z = 4
      · refine lv_tableIn (tgt := 250) hx hb dL_law_33 (by rw [h4]; decide) (by rw [h4]; decide) (by rw [h4]; rfl) (by decide) ?_
        exact lw_k4 C0 hO hi hLs hcl hw hS hl K
      by_cases h5 : z = 5
      · refine lv_tableIn (tgt := 283) hx hb dL_law_33 (by rw [h5]; decide) (by rw [h5]; decide) (by rw [h5]; rfl) (by decide) ?_
        exact lw_k5 C0 hO hi hLs hcl hw hS hl K
      by_cases h6 : z = 6
      · refine lv_tableIn (tgt := 326) hx hb dL_law_33 (by rw [h6]; decide) (by rw [h6]; decide) (by rw [h6]; rfl) (by decide) ?_
        exact lw_k6 C0 hO hi hLs hcl hw hS hl K
      by_cases h7 : z = 7
      · refine lv_tableIn (tgt := 390) hx hb dL_law_33 (by rw [h7]; decide) (by rw [h7]; decide) (by rw [h7]; rfl) (by decide) ?_
        exact lw_k7 C0 hO hi hLs hcl hw hS hl K
      by_cases h8 : z = 8
      · refine lv_tableIn (tgt := 413) hx hb dL_law_33 (by rw [h8]; decide) (by rw [h8]; decide) (by rw [h8]; rfl) (by decide) ?_
        exact lw_k8 C0 hO hi hLs hcl hw hS hl K
      by_cases h9 : z = 9
      · refine lv_tableIn (tgt := 456) hx hb dL_law_33 (by rw [h9]; decide) (by rw [h9]; decide) (by rw [h9]; rfl) (by decide) ?_
        exact lw_k9 C0 hO hi hLs hcl hw hS hl K
      by_cases h10 : z = 10
      · refine lv_tableIn (tgt := 500) hx hb dL_law_33 (by rw [h10]; decide) (by rw [h10]; decide) (by rw [h10]; rfl) (by decide) ?_
        exact lw_k10 C0 hO hi hLs hcl hw hS hl K
      by_cases h11 : z = 11
      · refine lv_tableIn (tgt := 543) hx hb dL_law_33 (by rw [h11]; decide) (by rw [h11]; decide) (by rw [h11]; rfl) (by decide) ?_
        exact lw_k11 C0 hO hi hLs hcl hw hS hl K
      by_cases h12 : z = 12
      · refine lv_tableIn (tgt := 586) hx hb dL_law_33 (by rw [h12]; decide) (by rw [h12]; decide) (by rw [h12]; rfl) (by decide) ?_
        exact lw_k12 C0 hO hi hLs hcl hw hS hl K
      by_cases h13 : z = 13
      · refine lv_tableIn (tgt := 640) hx hb dL_law_33 (by rw [h13]; decide) (by rw [h13]; decide) (by rw [h13]; rfl) (by decide) ?_
        exact lw_k13 C0 hO hi hLs hcl hw hS hl K
      by_cases h14 : z = 14
      · refine lv_tableIn (tgt := 663) hx hb dL_law_33 (by rw [h14]; decide) (by rw [h14]; decide) (by rw [h14]; rfl) (by decide) ?_
        exact lw_k14 C0 hO hi hLs hcl hw hS hl K
      refine lv_tableOut (tgt := 686) hx hb dL_law_33 (sw_out15 h0 h1 h2 h3 h4 h5 h6 h7 h8 h9 h10 h11 h12 h13 h14) (by decide) ?_
      refine W.widen (k := 100 + 2 * k + 2) (n := 20000 + 24 * k + 24) (by omega) (by omega) ?_
      exact K H locs hw hS
