/-! WHAT IT WOULD HAVE COST: the reference's equation and the class's have one answer -/
def sS (cs : Nat → Nat → Nat) (m h : Nat) : Nat → Nat
  | 0 => 0
  | k + 1 => sS cs m h k + cs m (h + k)
theorem sS_split (cs : Nat → Nat → Nat) (m h a : Nat) : ∀ b, sS cs m h (a + b) = sS cs m h a + sS cs m (h + a) b
  | 0 => rfl
  | b + 1 => by
    show sS cs m h (a + b) + cs m (h + (a + b)) = sS cs m h a + (sS cs m (h + a) b + cs m (h + a + b))
    rw [sS_split cs m h a b, Nat.add_assoc h a b, Nat.add_assoc]
theorem sS_mono {cs : Nat → Nat → Nat} {m h a b : Nat} (q : a ≤ b) : sS cs m h a ≤ sS cs m h b := by
  obtain ⟨c, rfl⟩ := Nat.exists_eq_add_of_le q
  rw [sS_split]; exact Nat.le_add_right _ _
theorem sS_one (cs : Nat → Nat → Nat) (m h : Nat) : sS cs m h 1 = cs m h := Nat.zero_add _
theorem sS_head (cs : Nat → Nat → Nat) (m h k : Nat) : sS cs m h (k + 1) = cs m h + sS cs m (h + 1) k := by
  rw [Nat.add_comm k 1, sS_split, sS_one]
theorem stF_eq (cs : Nat → Nat → Nat) (m h : Nat) : ∀ k, stF cs m h k = min 1000000000 (sS cs m h k)
  | 0 => rfl
  | k + 1 => by
    show smN (stF cs m h k) (cs m (h + k)) = min 1000000000 (sS cs m h k + cs m (h + k))
    rw [stF_eq cs m h k, smN]; omega
theorem smN_I (a : Nat) : smN a 1000000000 = 1000000000 := Nat.min_eq_left (Nat.le_add_left _ _)
def cdN (cs : Nat → Nat → Nat) (w bg sv : Nat) (F : Nat → Nat → Nat) (sd m h n : Nat) : Nat := sS cs m h n + (if w + ahd sd bg ≤ n + sd ∨ w ≤ n then 0 else F (h + n) (thn w sd (ahd sd bg) sv n))
theorem thn_lt {w sd ah sv n : Nat} (hs : sd < w) (q : ¬ (w + ah ≤ n + sd ∨ w ≤ n)) : thn w sd ah sv n < w := by
  unfold thn; omega
def csOf (pa : Nat → Nat → Int32) (cs : Nat → Nat → Nat) (d : Nat) : Prop := ∀ m i, m < 4 → i < d → cs m i = if pa m i = -1 then 1000000000 else (pa m i).toNatClampNeg
theorem inn_ub {pa : Nat → Nat → Int32} {cs : Nat → Nat → Nat} {w d sd bg sv h m : Nat} {F : Nat → Nat → Nat} (hc : csOf pa cs d) (hm : m < 4) (hs : sd < w) : ∀ k n b, 1 ≤ n → h + n + k ≤ d + 1 → b ≤ 1000000000 → ∀ n1, n ≤ n1 → n1 < n + k → inn (pa m) w sd (ahd sd bg) sv F h k n (sS cs m h (n - 1)) b ≤ cdN cs w bg sv F sd m h n1
  | 0, _, _, _, _, _, _, _, _ => by omega
  | k + 1, n, b, h1, h2, h3, n1, a1, a2 => by
    have hS : sS cs m h n = sS cs m h (n - 1) + cs m (h + n - 1) := by
      obtain ⟨j, rfl⟩ : ∃ j, n = j + 1 := ⟨n - 1, by omega⟩
      rfl
    have hcc := hc m (h + n - 1) hm (by omega)
    have hmo : sS cs m h n ≤ sS cs m h n1 := sS_mono a1
    have hge : sS cs m h n1 ≤ cdN cs w bg sv F sd m h n1 := Nat.le_add_right _ _
    rw [inn]
    by_cases q : pa m (h + n - 1) = -1
    · rw [if_pos q] at hcc ⊢; omega
    rw [if_neg q] at hcc ⊢
    rw [← hcc, ← hS]
    by_cases q2 : b ≤ sS cs m h n
    · rw [if_pos q2]; omega
    rw [if_neg q2]
    by_cases q3 : w + ahd sd bg ≤ n + sd ∨ w ≤ n
    · rw [if_pos q3]; omega
    rw [if_neg q3]
    by_cases q4 : n1 = n
    · subst q4
      refine Nat.le_trans (inn_le _ _ _ _) (Nat.le_trans (Nat.min_le_right _ _) ?_)
      rw [cnd, if_neg (Nat.not_le.mpr (thn_lt hs q3)), cdN, if_neg q3]
      exact Nat.le_refl _
    · exact inn_ub hc hm hs k (n + 1) _ (by omega) (by omega) (Nat.le_trans (Nat.min_le_left _ _) h3) n1 (by omega) (by omega)
theorem inn_att {pa : Nat → Nat → Int32} {cs : Nat → Nat → Nat} {w d sd bg sv h m : Nat} {F : Nat → Nat → Nat} (hc : csOf pa cs d) (hm : m < 4) (hs : sd < w) : ∀ k n b, 1 ≤ n → h + n + k ≤ d + 1 → inn (pa m) w sd (ahd sd bg) sv F h k n (sS cs m h (n - 1)) b = b ∨ ∃ n1, n ≤ n1 ∧ n1 < n + k ∧ inn (pa m) w sd (ahd sd bg) sv F h k n (sS cs m h (n - 1)) b = cdN cs w bg sv F sd m h n1
  | 0, _, _, _, _ => Or.inl rfl
  | k + 1, n, b, h1, h2 => by
    have hS : sS cs m h n = sS cs m h (n - 1) + cs m (h + n - 1) := by
      obtain ⟨j, rfl⟩ : ∃ j, n = j + 1 := ⟨n - 1, by omega⟩
      rfl
    have hcc := hc m (h + n - 1) hm (by omega)
    rw [inn]
    by_cases q : pa m (h + n - 1) = -1
    · rw [if_pos q]; exact Or.inl rfl
    rw [if_neg q] at hcc ⊢
    rw [← hcc, ← hS]
    by_cases q2 : b ≤ sS cs m h n
    · rw [if_pos q2]; exact Or.inl rfl
    rw [if_neg q2]
    by_cases q3 : w + ahd sd bg ≤ n + sd ∨ w ≤ n
    · rw [if_pos q3]; exact Or.inr ⟨n, Nat.le_refl _, by omega, by rw [cdN, if_pos q3]; rfl⟩
    rw [if_neg q3]
    have hcd : cnd w sd (ahd sd bg) sv F h n (sS cs m h n) = cdN cs w bg sv F sd m h n := by
      rw [cnd, if_neg (Nat.not_le.mpr (thn_lt hs q3)), cdN, if_neg q3]
    rcases inn_att (F := F) (bg := bg) (sv := sv) (h := h) hc hm hs k (n + 1) (min b (cnd w sd (ahd sd bg) sv F h n (sS cs m h n))) (by omega) (by omega) with e | ⟨n1, e1, e2, e3⟩
    · have e' : inn (pa m) w sd (ahd sd bg) sv F h k (n + 1) (sS cs m h n) (min b (cnd w sd (ahd sd bg) sv F h n (sS cs m h n))) = min b (cnd w sd (ahd sd bg) sv F h n (sS cs m h n)) := e
      rw [e']
      rcases Nat.le_total b (cnd w sd (ahd sd bg) sv F h n (sS cs m h n)) with z | z
      · exact Or.inl (Nat.min_eq_left z)
      · exact Or.inr ⟨n, Nat.le_refl _, by omega, (Nat.min_eq_right z).trans hcd⟩
    · exact Or.inr ⟨n1, by omega, by omega, e3⟩
theorem chM_ub {pa : Nat → Nat → Int32} {cs : Nat → Nat → Nat} {w d sd bg sv h : Nat} {F : Nat → Nat → Nat} (hc : csOf pa cs d) (hs : sd < w) (hd : h < d) : ∀ k m b, m + k ≤ 4 → b ≤ 1000000000 → ∀ m1 n1, m ≤ m1 → m1 < m + k → 1 ≤ n1 → h + n1 ≤ d → chM pa w d sd (ahd sd bg) sv F h k m b ≤ cdN cs w bg sv F sd m1 h n1
  | 0, _, _, _, _, _, _, _, _, _, _ => by omega
  | k + 1, m, b, a1, a2, m1, n1, a3, a4, a5, a6 => by
    rw [chM]
    by_cases q : m1 = m
    · subst q
      exact Nat.le_trans (chM_le _ _ _) (inn_ub hc (by omega) hs (d - h) 1 b (Nat.le_refl 1) (by omega) a2 n1 a5 (by omega))
    · exact chM_ub hc hs hd k (m + 1) _ (by omega) (Nat.le_trans (inn_le _ _ _ _) a2) m1 n1 (by omega) (by omega) a5 a6
theorem chM_att {pa : Nat → Nat → Int32} {cs : Nat → Nat → Nat} {w d sd bg sv h : Nat} {F : Nat → Nat → Nat} (hc : csOf pa cs d) (hs : sd < w) (hd : h < d) : ∀ k m b, m + k ≤ 4 → chM pa w d sd (ahd sd bg) sv F h k m b = b ∨ ∃ m1 n1, m1 < 4 ∧ 1 ≤ n1 ∧ h + n1 ≤ d ∧ chM pa w d sd (ahd sd bg) sv F h k m b = cdN cs w bg sv F sd m1 h n1
  | 0, _, _, _ => Or.inl rfl
  | k + 1, m, b, a1 => by
    rw [chM]
    rcases chM_att hc hs hd k (m + 1) (inn (pa m) w sd (ahd sd bg) sv F h (d - h) 1 0 b) (by omega) with e | ⟨m1, n1, e1, e2, e3, e4⟩
    · rw [e]
      rcases inn_att (F := F) (bg := bg) (sv := sv) hc (show m < 4 by omega) hs (d - h) 1 b (Nat.le_refl 1) (show h + 1 + (d - h) ≤ d + 1 by omega) with z | ⟨n1, z1, z2, z3⟩
      · exact Or.inl z
      · exact Or.inr ⟨m, n1, by omega, z1, by omega, z3⟩
    · exact Or.inr ⟨m1, n1, e1, e2, e3, e4⟩
section Orc
variable {pa : Nat → Nat → Int32} {cs : Nat → Nat → Nat} {w d bg sv cm : Nat} {F : Nat → Nat → Nat} {G : Nat → Nat → Nat → Nat}
theorem F_le (hR : RefSol pa w d bg sv cm F) {h sd : Nat} (a1 : cm ≤ h) (a2 : h ≤ d) (a3 : sd < w) : F h sd ≤ 1000000000 := (hR h sd a1 a2 a3).1
theorem F_eq (hR : RefSol pa w d bg sv cm F) {h sd : Nat} (a1 : cm ≤ h) (a2 : h < d) (a3 : sd < w) : F h sd = chp pa w d sd bg sv F h := by
  have := (hR h sd a1 (Nat.le_of_lt a2) a3).2
  rwa [if_neg (by omega)] at this
theorem F_d (hR : RefSol pa w d bg sv cm F) {sd : Nat} (a1 : cm ≤ d) (a3 : sd < w) : F d sd = 1000000000 := by
  have := (hR d sd a1 (Nat.le_refl _) a3).2
  rwa [if_pos rfl] at this
theorem F_wait (hR : RefSol pa w d bg sv cm F) {h sd : Nat} (a1 : cm ≤ h) (a2 : h < d) (a3 : sd < w) : F h sd ≤ F (h + 1) sd := by
  rw [F_eq hR a1 a2 a3]; exact chM_le _ _ _
theorem F_waits (hR : RefSol pa w d bg sv cm F) {h sd : Nat} (a1 : cm ≤ h) (a3 : sd < w) : ∀ k, h + k ≤ d → F h sd ≤ F (h + k) sd
  | 0, _ => Nat.le_refl _
  | k + 1, a2 => Nat.le_trans (F_waits hR a1 a3 k (by omega)) (F_wait hR (h := h + k) (by omega) (by omega) a3)
theorem F_ub (hc : csOf pa cs d) (hR : RefSol pa w d bg sv cm F) {h sd m n : Nat} (a1 : cm ≤ h) (a3 : sd < w) (hm : m < 4) (hn : 1 ≤ n) (hd : h + n ≤ d) : F h sd ≤ cdN cs w bg sv F sd m h n := by
  rw [F_eq hR a1 (by omega) a3]
  exact chM_ub hc a3 (by omega) 4 0 _ (by omega) (F_le hR (by omega) (by omega) a3) m n (by omega) (by omega) hn hd
theorem F_att (hc : csOf pa cs d) (hR : RefSol pa w d bg sv cm F) {h sd : Nat} (a1 : cm ≤ h) (a2 : h < d) (a3 : sd < w) : F h sd = F (h + 1) sd ∨ ∃ m n, m < 4 ∧ 1 ≤ n ∧ h + n ≤ d ∧ F h sd = cdN cs w bg sv F sd m h n := by
  rw [F_eq hR a1 a2 a3]
  exact chM_att hc a3 a2 4 0 _ (by omega)
theorem F_anti (hc : csOf pa cs d) (hR : RefSol pa w d bg sv cm F) : ∀ k h, d - h = k → cm ≤ h → h ≤ d → ∀ s1 s2, s1 ≤ s2 → s2 < w → F h s2 ≤ F h s1 := by
  intro k
  induction k using Nat.strongRecOn with
  | _ k ih =>
    intro h hk a1 a2 s1 s2 b1 b2
    by_cases hd : h = d
    · subst hd
      rw [F_d hR a1 (show s1 < w by omega), F_d hR a1 b2]; exact Nat.le_refl _
    rcases F_att hc hR a1 (show h < d by omega) (show s1 < w by omega) with e | ⟨m, n, e1, e2, e3, e4⟩
    · rw [e]
      exact Nat.le_trans (F_wait hR a1 (by omega) b2) (ih (d - (h + 1)) (by omega) (h + 1) rfl (by omega) (by omega) s1 s2 b1 b2)
    · rw [e4]
      refine Nat.le_trans (F_ub hc hR a1 b2 e1 e2 e3) ?_
      refine Nat.add_le_add_left ?_ _
      by_cases q2 : w + ahd s2 bg ≤ n + s2 ∨ w ≤ n
      · rw [if_pos q2]; exact Nat.zero_le _
      · have q1 : ¬ (w + ahd s1 bg ≤ n + s1 ∨ w ≤ n) := by
          intro z; apply q2
          revert z; unfold ahd
          split <;> split <;> omega
        rw [if_neg q2, if_neg q1]
        refine ih (d - (h + n)) (by omega) (h + n) rfl (by omega) (by omega) _ _ ?_ (thn_lt b2 q2)
        unfold thn ahd
        split <;> split <;> omega
theorem frN_0 {h pl dn : Nat} (hw : w ≤ dn) (hh : h ≤ d) : frN w d G h pl dn = 0 := by
  rw [frN, if_neg (by omega), if_pos hw]
theorem frN_G {h pl dn : Nat} (hw : dn < w) (hh : h < d) : frN w d G h pl dn = G h pl dn := by
  rw [frN, if_neg (by omega), if_neg (by omega), if_pos hh]
theorem frN_I {h pl dn : Nat} (hw : dn < w) (hh : d ≤ h) : frN w d G h pl dn = 1000000000 := by
  unfold frN
  split
  · rfl
  · rw [if_neg (by omega), if_neg (by omega)]
/-- what a machine's state is at least -/
def lbM (cs : Nat → Nat → Nat) (w d sv : Nat) (F : Nat → Nat → Nat) (m h dn g : Nat) : Prop := 1000000000 ≤ g ∨ ∃ n, 1 ≤ n ∧ h + n ≤ d ∧ ((w ≤ dn + n ∧ sS cs m h n ≤ g) ∨ (sv ≤ n ∧ dn + n < w + sv ∧ sS cs m h n + F (h + n) (dn + n - sv) ≤ g))
theorem lb_step0 {m h dn : Nat} (hh : h < d) (ih : lbM cs w d sv F m (h + 1) (dn + 1) (G (h + 1) m (dn + 1))) : lbM cs w d sv F m h dn (min 1000000000 (min 1000000000 (cs m h) + G (h + 1) m (dn + 1))) := by
  rcases ih with e | ⟨n, e1, e2, e3⟩
  · exact Or.inl (by omega)
  · by_cases z : 1000000000 ≤ cs m h + G (h + 1) m (dn + 1)
    · exact Or.inl (by omega)
    refine Or.inr ⟨n + 1, by omega, by omega, ?_⟩
    rw [sS_head]
    rcases e3 with ⟨f1, f2⟩ | ⟨f1, f2, f3⟩
    · exact Or.inl ⟨by omega, by omega⟩
    · refine Or.inr ⟨by omega, by omega, ?_⟩
      rw [show h + (n + 1) = h + 1 + n by omega, show dn + (n + 1) - sv = dn + 1 + n - sv by omega]
      omega
theorem lb_step1 {m h dn : Nat} (hh : h < d) (hdn : dn < w) (ih : h + 1 < d → dn + 1 < w → lbM cs w d sv F m (h + 1) (dn + 1) (G (h + 1) m (dn + 1))) : lbM cs w d sv F m h dn (smN (stF cs m h 1) (frN w d G (h + 1) m (dn + 1))) := by
  by_cases q2 : ¬ w ≤ dn + 1
  · by_cases q2 : d ≤ h + 1
    · rw [frN_I (by omega) q2, smN_I]; exact Or.inl (Nat.le_refl _)
    rw [frN_G (by omega) (by omega), stF_eq, sS_one, smN]
    exact lb_step0 hh (ih (by omega) (by omega))
  · have q : w ≤ dn + 1 := Decidable.of_not_not q2
    rw [stF_eq, sS_one, smN]
    by_cases z : 1000000000 ≤ cs m h
    · exact Or.inl (by omega)
    · refine Or.inr ⟨1, Nat.le_refl 1, by omega, Or.inl ⟨q, ?_⟩⟩
      rw [sS_one]; omega
theorem lbM_all (hc : csOf pa cs d) (hR : RefSol pa w d bg sv cm F) (hC : CmpSol cs w d bg sv cm G) {h0 : Nat} (hI : ∀ h, h0 < h → h < d → ∀ sd, sd < w → F h sd = G h 4 sd) (h0c : cm ≤ h0) : ∀ k h, d - h = k → h0 ≤ h → h < d → ∀ m dn, m < 4 → dn < w → lbM cs w d sv F m h dn (G h m dn) := by
  intro k
  induction k using Nat.strongRecOn with
  | _ k ih =>
    intro h hk a1 a2 m dn a3 a4
    have ih1 : ∀ j, 0 < j → h + j < d → ∀ dn, dn < w → lbM cs w d sv F m (h + j) dn (G (h + j) m dn) := fun j b1 b2 dn b3 => ih (d - (h + j)) (by omega) (h + j) rfl (by omega) b2 m dn a3 b3
    have hE : ∀ j sd, 0 < j → h + j ≤ d → sd < w → frN w d G (h + j) 4 sd = F (h + j) sd := by
      intro j sd b1 b2 b3
      by_cases q : h + j = d
      · rw [frN_I b3 (by omega), q, F_d hR (by omega) b3]
      · rw [frN_G b3 (by omega), hI (h + j) (by omega) (by omega) sd b3]
    rw [(hC h (by omega) a2).1 m dn a3 a4, onM]
    by_cases hv : sv = 0
    · rw [if_pos hv, frS]
      rcases Nat.le_total (frN w d G (h + 1) m (dn + 1)) (frN w d G (h + 1) 4 (dn + 1)) with z | z
      · rw [Nat.min_eq_left z]
        exact lb_step1 a2 a4 (fun b1 b2 => ih1 1 (by omega) b1 _ b2)
      · rw [Nat.min_eq_right z, stF_eq, sS_one, smN]
        by_cases y : 1000000000 ≤ cs m h + frN w d G (h + 1) 4 (dn + 1)
        · exact Or.inl (by omega)
        refine Or.inr ⟨1, Nat.le_refl 1, by omega, ?_⟩
        rw [sS_one]
        by_cases q : w ≤ dn + 1
        · exact Or.inl ⟨q, by omega⟩
        · refine Or.inr ⟨by omega, by omega, ?_⟩
          rw [hE 1 _ (by omega) (by omega) (by omega)] at y ⊢
          rw [hv]
          show cs m h + F (h + 1) (dn + 1) ≤ _
          omega
    · rw [if_neg hv]
      rcases Nat.le_total (smN (stF cs m h 1) (frN w d G (h + 1) m (dn + 1))) (smN (stF cs m h sv) (frS w d G (h + sv) m dn)) with z | z
      · rw [Nat.min_eq_left z]
        exact lb_step1 a2 a4 (fun b1 b2 => ih1 1 (by omega) b1 _ b2)
      · rw [Nat.min_eq_right z, stF_eq, frS]
        by_cases q0 : d < h + sv
        · rw [frN_I a4 (by omega), frN_I a4 (by omega), Nat.min_self, smN_I]; exact Or.inl (Nat.le_refl _)
        rcases Nat.le_total (frN w d G (h + sv) m dn) (frN w d G (h + sv) 4 dn) with y | y
        · rw [Nat.min_eq_left y]
          by_cases q1 : d ≤ h + sv
          · rw [frN_I a4 q1, smN_I]; exact Or.inl (Nat.le_refl _)
          rw [frN_G a4 (by omega), smN]
          rcases ih1 sv (by omega) (by omega) dn a4 with e | ⟨n, e1, e2, e3⟩
          · exact Or.inl (by omega)
          · by_cases x : 1000000000 ≤ sS cs m h sv + G (h + sv) m dn
            · exact Or.inl (by omega)
            refine Or.inr ⟨sv + n, by omega, by omega, ?_⟩
            rw [sS_split]
            rcases e3 with ⟨f1, f2⟩ | ⟨f1, f2, f3⟩
            · exact Or.inl ⟨by omega, by omega⟩
            · by_cases q3 : w ≤ dn + (sv + n)
              · exact Or.inl ⟨q3, by omega⟩
              · refine Or.inr ⟨by omega, by omega, ?_⟩
                have hA := F_anti hc hR (d - (h + sv + n)) (h + sv + n) rfl (by omega) (by omega) (dn + n - sv) (dn + n) (by omega) (by omega)
                rw [show h + (sv + n) = h + sv + n by omega, show dn + (sv + n) - sv = dn + n by omega]
                omega
        · rw [Nat.min_eq_right y, hE sv dn (by omega) (by omega) a4, smN]
          by_cases x : 1000000000 ≤ sS cs m h sv + F (h + sv) dn
          · exact Or.inl (by omega)
          refine Or.inr ⟨sv, by omega, by omega, Or.inr ⟨Nat.le_refl _, by omega, ?_⟩⟩
          rw [show dn + sv - sv = dn by omega]
          omega
theorem stp (hC : CmpSol cs w d bg sv cm G) {h m dn : Nat} (a1 : cm ≤ h) (a2 : h < d) (hm : m < 4) (hdn : dn < w) : G h m dn ≤ cs m h + frN w d G (h + 1) m (dn + 1) := by
  rw [(hC h a1 a2).1 m dn hm hdn, onM, stF_eq, sS_one]
  split
  · unfold smN frS; omega
  · unfold smN; omega
theorem up_1 (hC : CmpSol cs w d bg sv cm G) {m : Nat} (hm : m < 4) : ∀ k h dn, cm ≤ h → 1 ≤ k → h + k ≤ d → dn < w → w ≤ dn + k → G h m dn ≤ sS cs m h k
  | 0, _, _, _, _, _, _, _ => by omega
  | k + 1, h, dn, a1, a2, a3, a4, a5 => by
    refine Nat.le_trans (stp hC a1 (by omega) hm a4) ?_
    rw [sS_head]
    refine Nat.add_le_add_left ?_ _
    by_cases q : w ≤ dn + 1
    · rw [frN_0 q (by omega)]; exact Nat.zero_le _
    · rw [frN_G (by omega) (by omega)]
      exact up_1 hC hm k (h + 1) (dn + 1) (by omega) (by omega) (by omega) (by omega) (by omega)
theorem up_2 (hC : CmpSol cs w d bg sv cm G) {m : Nat} (hm : m < 4) : ∀ k h dn, cm ≤ h → 1 ≤ k + sv → h + (k + sv) ≤ d → dn + k < w → G h m dn ≤ sS cs m h (k + sv) + frN w d G (h + (k + sv)) 4 (dn + k)
  | 0, h, dn, a1, a2, a3, a4 => by
    rw [(hC h a1 (by omega)).1 m dn hm (by omega), onM, if_neg (by omega), stF_eq, stF_eq, Nat.zero_add]
    show _ ≤ _ + frN w d G (h + sv) 4 dn
    unfold smN frS; omega
  | k + 1, h, dn, a1, a2, a3, a4 => by
    by_cases q : k = 0 ∧ sv = 0
    · obtain ⟨rfl, rfl⟩ := q
      rw [(hC h a1 (by omega)).1 m dn hm (by omega), onM, if_pos rfl, stF_eq]
      show _ ≤ sS cs m h 1 + frN w d G (h + 1) 4 (dn + 1)
      unfold smN frS; omega
    · refine Nat.le_trans (stp hC a1 (by omega) hm (by omega)) ?_
      rw [show k + 1 + sv = (k + sv) + 1 by omega, sS_head, Nat.add_assoc]
      refine Nat.add_le_add_left ?_ _
      rw [frN_G (by omega) (by omega)]
      have := up_2 hC hm k (h + 1) (dn + 1) (by omega) (by omega) (by omega) (by omega)
      rw [show h + 1 + (k + sv) = h + (k + sv + 1) by omega, show dn + 1 + k = dn + (k + 1) by omega] at this
      exact this
theorem onN_wait {h sd : Nat} : ∀ k, onN cs w d bg G h sd k ≤ frN w d G (h + 1) 4 sd
  | 0 => Nat.le_refl _
  | k + 1 => Nat.le_trans (Nat.min_le_left _ _) (onN_wait k)
theorem onN_any {h sd : Nat} : ∀ k m, m < k → onN cs w d bg G h sd k ≤ min (frN w d G h m 0) (bkN cs w d bg G h m sd)
  | 0, _, a => by omega
  | k + 1, m, a => by
    rw [onN]
    by_cases q : m = k
    · subst q; exact Nat.min_le_right _ _
    · exact Nat.le_trans (Nat.min_le_left _ _) (onN_any k m (by omega))
theorem onN_att {h sd : Nat} : ∀ k, onN cs w d bg G h sd k = frN w d G (h + 1) 4 sd ∨ ∃ m, m < k ∧ (onN cs w d bg G h sd k = frN w d G h m 0 ∨ onN cs w d bg G h sd k = bkN cs w d bg G h m sd)
  | 0 => Or.inl rfl
  | k + 1 => by
    rw [onN]
    have e := onN_att (h := h) (sd := sd) k
    rcases Nat.le_total (onN cs w d bg G h sd k) (min (frN w d G h k 0) (bkN cs w d bg G h k sd)) with z | z
    · rw [Nat.min_eq_left z]
      rcases e with e | ⟨m, e1, e2⟩
      · exact Or.inl e
      · exact Or.inr ⟨m, by omega, e2⟩
    · rw [Nat.min_eq_right z]
      refine Or.inr ⟨k, by omega, ?_⟩
      omega
theorem orc_step (hc : csOf pa cs d) (hR : RefSol pa w d bg sv cm F) (hC : CmpSol cs w d bg sv cm G) {h : Nat} (h0c : cm ≤ h) (hd : h < d) (hI : ∀ h1, h < h1 → h1 < d → ∀ sd, sd < w → F h1 sd = G h1 4 sd) (sd : Nat) (hs : sd < w) : F h sd = G h 4 sd := by
  have hE : ∀ j s1, 0 < j → h + j ≤ d → s1 < w → frN w d G (h + j) 4 s1 = F (h + j) s1 := by
    intro j s1 b1 b2 b3
    by_cases q : h + j = d
    · rw [frN_I b3 (by omega), q, F_d hR (by omega) b3]
    · rw [frN_G b3 (by omega), hI (h + j) (by omega) (by omega) s1 b3]
  have hF9 := F_le hR h0c (Nat.le_of_lt hd) hs
  have hlb := fun h1 a1 a2 => lbM_all hc hR hC hI h0c (d - h1) h1 rfl a1 a2
  have eG := (hC h h0c hd).2 sd hs
  apply Nat.le_antisymm
  · rw [eG]
    rcases onN_att (cs := cs) (w := w) (d := d) (bg := bg) (G := G) (h := h) (sd := sd) 4 with e | ⟨m, hm, e | e⟩
    · rw [e, hE 1 sd (by omega) (by omega) hs]; exact F_wait hR h0c hd hs
    · rw [e, frN_G (by omega) hd]
      rcases hlb h (Nat.le_refl _) hd m 0 hm (by omega) with z | ⟨n, z1, z2, z3⟩
      · omega
      · refine Nat.le_trans (F_ub hc hR h0c hs hm z1 z2) ?_
        rw [cdN]
        rcases z3 with ⟨f1, f2⟩ | ⟨f1, f2, f3⟩
        · rw [if_pos (Or.inr (by omega))]; omega
        · split
          · omega
          · rename_i q
            have hA := F_anti hc hR (d - (h + n)) (h + n) rfl (by omega) (by omega) (0 + n - sv) (thn w sd (ahd sd bg) sv n) (by unfold thn; omega) (thn_lt hs q)
            omega
    · rw [e, bkN]
      by_cases q0 : sd = 0
      · rw [if_pos q0]; exact hF9
      rw [if_neg q0, stF_eq]
      have hah : ahd sd bg = bg := if_neg q0
      by_cases q1 : d ≤ h + bg
      · rw [frN_I hs q1, smN_I]; exact hF9
      rw [frN_G hs (by omega), smN]
      rcases hlb (h + bg) (by omega) (by omega) m sd hm hs with z | ⟨n, z1, z2, z3⟩
      · omega
      · by_cases x : 1000000000 ≤ sS cs m h bg + G (h + bg) m sd
        · omega
        refine Nat.le_trans (F_ub hc hR h0c hs hm (show 1 ≤ bg + n by omega) (by omega)) ?_
        rw [cdN, hah, sS_split]
        rcases z3 with ⟨f1, f2⟩ | ⟨f1, f2, f3⟩
        · rw [if_pos (Or.inl (by omega))]; omega
        · split
          · omega
          · rename_i q
            have hA := F_anti hc hR (d - (h + bg + n)) (h + bg + n) rfl (by omega) (by omega) (sd + n - sv) (thn w sd bg sv (bg + n)) (by unfold thn; omega) (thn_lt hs q)
            rw [show h + (bg + n) = h + bg + n by omega]
            omega
  · rcases F_att hc hR h0c hd hs with e | ⟨m, n, e1, e2, e3, e4⟩
    · rw [e, eG, ← hE 1 sd (by omega) (by omega) hs]; exact onN_wait 4
    · have hany := onN_any (cs := cs) (w := w) (d := d) (bg := bg) (G := G) (h := h) (sd := sd) 4 m e1
      rw [← eG, frN_G (show 0 < w by omega) hd] at hany
      have hwt : ∀ k, 1 ≤ k → h + k ≤ d → G h 4 sd ≤ F (h + k) sd := by
        intro k b1 b2
        have hw1 : G h 4 sd ≤ F (h + 1) sd := by rw [eG, ← hE 1 sd (by omega) (by omega) hs]; exact onN_wait 4
        have := F_waits hR (h := h + 1) (sd := sd) (by omega) hs (k - 1) (by omega)
        rw [show h + 1 + (k - 1) = h + k by omega] at this
        omega
      have hbk : ¬ sd = 0 → h + bg < d → G h 4 sd ≤ sS cs m h bg + G (h + bg) m sd := by
        intro q0 q1
        rw [bkN, if_neg q0, stF_eq, smN, frN_G hs q1] at hany
        omega
      rw [e4, cdN]
      split
      · rename_i q
        by_cases q2 : w ≤ n
        · have := up_1 hC e1 n h 0 h0c e2 e3 (by omega) (by omega)
          omega
        · have q0 : ¬ sd = 0 := by
            intro z; rw [ahd, if_pos z] at q; omega
          have hah : ahd sd bg = bg := if_neg q0
          rw [hah] at q
          have h1 := hbk q0 (by omega)
          have h2 := up_1 hC e1 (n - bg) (h + bg) sd (by omega) (by omega) (by omega) hs (by omega)
          have h3 : sS cs m h n = sS cs m h bg + sS cs m (h + bg) (n - bg) := by rw [← sS_split, show bg + (n - bg) = n by omega]
          omega
      · rename_i q
        by_cases qw : thn w sd (ahd sd bg) sv n = sd
        · rw [qw]
          have := hwt n e2 e3
          omega
        by_cases qa : sv ≤ n ∧ thn w sd (ahd sd bg) sv n = n - sv
        · rw [qa.2]
          have h1 := up_2 hC e1 (n - sv) h 0 h0c (by omega) (by omega) (by have := thn_lt (sv := sv) hs q; omega)
          rw [show n - sv + sv = n by omega, Nat.zero_add, hE n _ (by omega) e3 (by have := thn_lt (sv := sv) hs q; omega)] at h1
          omega
        · have q0 : ¬ sd = 0 := by
            intro z; apply qa
            subst z
            unfold thn ahd at qw ⊢
            unfold ahd at q
            simp only [if_true] at qw q ⊢
            omega
          have hah : ahd sd bg = bg := if_neg q0
          rw [hah] at q qw qa ⊢
          have hk : bg + sv < n ∧ thn w sd bg sv n = sd + (n - bg - sv) := by
            unfold thn at qw qa ⊢; omega
          have ht := thn_lt (sv := sv) hs q
          rw [hk.2] at ht ⊢
          have h1 := hbk q0 (by omega)
          have h2 := up_2 hC e1 (n - bg - sv) (h + bg) sd (by omega) (by omega) (by omega) ht
          rw [show n - bg - sv + sv = n - bg by omega, show h + bg + (n - bg) = h + n by omega, hE n _ (by omega) e3 ht] at h2
          have h3 : sS cs m h n = sS cs m h bg + sS cs m (h + bg) (n - bg) := by rw [← sS_split, show bg + (n - bg) = n by omega]
          omega
theorem orc_all (hc : csOf pa cs d) (hR : RefSol pa w d bg sv cm F) (hC : CmpSol cs w d bg sv cm G) : ∀ k h, d - h = k → cm ≤ h → h < d → ∀ sd, sd < w → F h sd = G h 4 sd := by
  intro k
  induction k using Nat.strongRecOn with
  | _ k ih =>
    intro h hk a1 a2
    exact orc_step hc hR hC a1 a2 (fun h1 b1 b2 => ih (d - h1) (by omega) h1 rfl (by omega) b2)
end Orc
theorem csOf_pr (pr : Nat → Int32) (full : Int32) {d : Nat} (hd : d ≤ 200) : csOf (pAt pr full) (cstN pr full) d := by
  intro m i hm hi
  have e : atV pr full m i = pAt pr full m i := by
    unfold atV pAt
    split
    · rfl
    · rw [if_pos (by omega)]
  rw [cstN, e]
theorem orc_eq {pr : Nat → Int32} {full : Int32} {n : Nat} {R : Nat → Nat → Int32} {x r1 r2 : Int32} (hn : n ≤ 12) (h1 : orcM pr full n R x r1) (h2 : orcK pr full n R x r2) : r1 = r2 := by
  rcases h1 with ⟨a1, a2⟩ | ⟨j, hj, hx, w, d, mk, sv, bg, cm, b0, b1, b2, b3, b4, b5, b6, F, b7, b8⟩
  · rcases h2 with ⟨_, c2⟩ | ⟨j, hj, hx, _⟩
    · rw [a2, c2]
    · refine absurd a1 ?_
      rw [hx, show nI n - 1 = nI (n - 1) from pk_sub (a := n) (b := 1) (Nat.le_trans (Nat.succ_le_succ (Nat.zero_le j)) hj)]
      exact (wi_n1 (by omega) (by omega)).mpr (by omega)
  · rcases h2 with ⟨c1, _⟩ | ⟨j', hj', hx', w', d', mk', sv', bg', cm', d0, d1, d2, d3, d4, d5, d6, G, d7, d8⟩
    · refine absurd c1 ?_
      rw [hx, show nI n - 1 = nI (n - 1) from pk_sub (a := n) (b := 1) (Nat.le_trans (Nat.succ_le_succ (Nat.zero_le j)) hj)]
      exact (wi_n1 (by omega) (by omega)).mpr (by omega)
    · obtain rfl : j' = j := (nI_eq (by omega) (by omega)).mp (hx'.symm.trans hx)
      obtain rfl : w' = w := (nI_eq (by omega) (by omega)).mp (d1.symm.trans b1)
      obtain rfl : d' = d := (nI_eq (by omega) (by omega)).mp (d2.symm.trans b2)
      obtain rfl : sv' = sv := (nI_eq (by omega) (by omega)).mp (d4.symm.trans b4)
      obtain rfl : bg' = bg := (nI_eq (by omega) (by omega)).mp (d5.symm.trans b5)
      obtain rfl : cm' = cm := (nI_eq (by omega) (by omega)).mp (d6.symm.trans b6)
      rw [b8, d8, orc_all (csOf_pr pr full (by omega)) b7 d7 _ cm' rfl (Nat.le_refl _) (by omega) 0 (by omega)]
