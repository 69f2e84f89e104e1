theorem s_has {i : Nat} {σ τ : fo_S} (_ : i ≤ 3072) (h : Rl i σ τ) {a1 a2 : Int32} : ∃ r : Int64, q_FairOrder_has σ a1 a2 = some r ∧ r_has τ a1 a2 = some r := by
  obtain ⟨na, nc, ph, ⟨n1, n2, n3, n4, n5, n6, n7, n8, n9, n10, n11⟩, hm, hc, hr⟩ := h
  unfold q_FairOrder_has r_has r_has_J9 q_FairOrder_isHolding q_Market_held
  simp only [q_isA n4 n1, n5, Option.bind_some, f_if0]
  have e10 : ¬ ((1 : Int32) = 0) := by decide
  have hv8 : fo_vi (8 : Int32) 9 := by decide
  have h8 : (8 : Int32).toNatClampNeg = 8 := by decide
  have m1 : (-1 : Int32).toInt = -1 := rfl
  have m2 : (-2 : Int32).toInt = -2 := rfl
  obtain ⟨⟨p1, p2, -⟩, hm2⟩ := hm
  by_cases c0 : a2 = 0 ∨ a2 = 1
  rotate_left
  · have d0 : ¬ a2 = 0 := fun q => c0 (Or.inl q)
    have d1 : ¬ a2 = 1 := fun q => c0 (Or.inr q)
    simp only [if_neg d0, if_neg d1, Option.bind_some, if_true]
    exact ⟨_, rfl, rfl⟩
  have key : ∃ r : Int64, (if a1 = (-1 : Int32) then ((if a2 = 0 then (if fo_vi (8 : Int32) 9 then (some (σ.2 2 0 (8 : Int32).toNatClampNeg)) else none) else (if fo_vi (8 : Int32) 9 then (some (σ.2 3 0 (8 : Int32).toNatClampNeg)) else none)).bind (fun x13 => some x13)) else (if a1 = (-2 : Int32) then (if a2 = 0 then (some (σ.2 0 0 12)) else (some (0 : Int64))) else (if ¬ (0 ≤ a1.toInt ∧ a1.toInt < na) then (some (0 : Int64)) else ((if a2 = 0 then (if fo_vi a1 9 then (some (σ.2 2 0 a1.toNatClampNeg)) else none) else (if fo_vi a1 9 then (some (σ.2 3 0 a1.toNatClampNeg)) else none)).bind (fun x8 => some x8))))) = some r ∧ (if a1 < (-2 : Int32) then (some (0 : Int64)) else (if a1 < nI na then (if a1 = (-2 : Int32) then (if a2 = 0 then (some (τ.2 0 0 5)) else (some (0 : Int64))) else (if a1 = (-1 : Int32) then (if a2 = 0 then (some (τ.2 0 0 3)) else (some (τ.2 0 0 4))) else (if a2 = 0 then (if fo_vi a1 8 then (some (τ.2 1 0 a1.toNatClampNeg)) else none) else (if fo_vi a1 8 then (some (τ.2 2 0 a1.toNatClampNeg)) else none)))) else (some (0 : Int64)))) = some r := by
    have k1 : (a1 < (-2 : Int32)) ↔ a1.toInt < -2 := by rw [fi_lt]; rfl
    have k2 : (a1 < nI na) ↔ a1.toInt < na := by rw [fi_lt, f_ti (by omega)]
    by_cases c1 : a1 = -1
    · subst c1
      have g1 : ¬ ((-1 : Int32) < -2) := by decide
      have g2 : (-1 : Int32) < nI na := by rw [fi_lt, f_ti (by omega), m1]; omega
      have g3 : ¬ ((-1 : Int32) = -2) := by decide
      simp only [if_true, if_neg g1, if_pos g2, if_neg g3, if_pos hv8, h8, p1, p2]
      by_cases c2 : a2 = 0
      · simp only [if_pos c2]
        exact ⟨_, rfl, rfl⟩
      · simp only [if_neg c2]
        exact ⟨_, rfl, rfl⟩
    · by_cases c1' : a1 = -2
      · subst c1'
        have g1 : ¬ ((-2 : Int32) < -2) := by decide
        have g2 : (-2 : Int32) < nI na := by rw [fi_lt, f_ti (by omega), m2]; omega
        simp only [if_true, if_neg c1, if_neg g1, if_pos g2, n11]
        by_cases c2 : a2 = 0
        · simp only [if_pos c2]
          exact ⟨_, rfl, rfl⟩
        · simp only [if_neg c2]
          exact ⟨_, rfl, rfl⟩
      · simp only [if_neg c1, if_neg c1']
        by_cases c3 : 0 ≤ a1.toInt ∧ a1.toInt < na
        · have g1 : ¬ a1 < (-2 : Int32) := by rw [k1]; omega
          have g2 : a1 < nI na := by rw [k2]; exact c3.2
          obtain ⟨a, ha, rfl⟩ := f_ix c3
          have v1 := f_vi (c := a) (N := 8) (by omega) (by omega)
          have v2 := f_vi (c := a) (N := 9) (by omega) (by omega)
          obtain ⟨w1, w2, -⟩ := hm2 a ha
          simp only [if_neg g1, if_pos g2, if_neg (f_nn c3), if_pos v1, if_pos v2, f_cl (show a < 1000000 by omega), w1, w2]
          by_cases c2 : nI a = nI a ∧ a2 = 0
          · simp only [if_pos c2.2]
            exact ⟨_, rfl, rfl⟩
          · have c2' : ¬ a2 = 0 := fun q => c2 ⟨rfl, q⟩
            simp only [if_neg c2']
            exact ⟨_, rfl, rfl⟩
        · simp only [if_pos c3]
          have x1 : a1.toInt ≠ -1 := fun q => c1 (fi_eq.mpr (by rw [q, m1]))
          have x2 : a1.toInt ≠ -2 := fun q => c1' (fi_eq.mpr (by rw [q, m2]))
          by_cases g1 : a1 < (-2 : Int32)
          · simp only [if_pos g1]
            exact ⟨_, rfl, rfl⟩
          · have g2 : ¬ a1 < nI na := by
              rw [k2]
              rw [k1] at g1
              omega
            simp only [if_neg g1, if_neg g2]
            exact ⟨_, rfl, rfl⟩
  rcases c0 with c0 | c0
  · simp only [if_pos c0, Option.bind_some, if_neg e10] at key ⊢
    exact key
  · have d0 : ¬ a2 = 0 := by rw [c0]; decide
    simp only [if_neg d0, if_pos c0, Option.bind_some, if_neg e10] at key ⊢
    exact key
theorem s_of {i : Nat} {σ τ : fo_S} (_ : i ≤ 3072) (h : Rl i σ τ) {a1 a2 : Int32} : ∃ r : Int32, q_FairOrder_of σ a1 a2 = some r ∧ r_of τ a1 a2 = some r := by
  obtain ⟨na, nc, ph, ⟨n1, n2, n3, n4, n5, n6, n7, n8, n9, n10, n11⟩, hm, hc, hr⟩ := h
  unfold q_FairOrder_of r_of r_of_J39 q_Call_term
  simp only [q_isC n6 n2, r_isC n7 n2, r_in', Option.bind_some, f_if0]
  have e10 : ¬ ((1 : Int32) = 0) := by decide
  by_cases c1 : 0 ≤ a1.toInt ∧ a1.toInt < nc
  rotate_left
  · simp only [if_pos c1]
    exact ⟨_, rfl, rfl⟩
  simp only [if_neg (f_nn c1)]
  have k1 : (a2 < 0) ↔ a2.toInt < 0 := by rw [fi_lt]; rfl
  have k2 : (a2 ≤ (4 : Int32)) ↔ a2.toInt ≤ 4 := by rw [fi_le]; rfl
  have k3 : (a2 ≤ (1 : Int32)) ↔ a2.toInt ≤ 1 := by rw [fi_le]; rfl
  have k5 : ((0 : Int64) ≤ a2.toInt64 ∧ a2.toInt64 ≤ 4) ↔ (0 ≤ a2.toInt ∧ a2.toInt ≤ 4) := by rw [fj_le, fj_le, fi_j]; exact Iff.rfl
  simp only [k1, k2, k3, k5]
  by_cases c2 : 0 ≤ a2.toInt ∧ a2.toInt ≤ 4
  rotate_left
  · simp only [if_pos c2]
    by_cases d1 : a2.toInt < 0
    · simp only [if_pos d1]
      exact ⟨_, rfl, rfl⟩
    · simp only [if_neg d1, if_neg (show ¬ a2.toInt ≤ 4 by omega)]
      exact ⟨_, rfl, rfl⟩
  simp only [if_neg (f_nn c2), if_neg (show ¬ a2.toInt < 0 by omega), if_pos c2.2]
  obtain ⟨c, hcc, rfl⟩ := f_ix c1
  obtain ⟨w, hw, rfl⟩ := f_ix (n := 5) ⟨c2.1, by omega⟩
  have v1 := f_vi (c := c) (N := 16) (by omega) (by omega)
  obtain ⟨⟨ow, ho, r1, r1'⟩, r2, r3, r4, r5⟩ := hc c hcc
  simp only [if_pos v1, f_cl (show c < 1000000 by omega), r1, r1']
  rcases r5 with ⟨t1, t2⟩ | ⟨t1, t2, sd, pr, am, s1, s2, s3, s4, s5, s6, s7, s8, s9, s10, s11⟩
  · simp only [t1, t2]
    rcases (show w = 0 ∨ w = 1 ∨ w = 2 ∨ w = 3 ∨ w = 4 by omega) with rfl | rfl | rfl | rfl | rfl <;> exact ⟨_, rfl, rfl⟩
  · simp only [t1, t2, s6, s7, s8, s9, s10, s11]
    rcases (show w = 0 ∨ w = 1 ∨ w = 2 ∨ w = 3 ∨ w = 4 by omega) with rfl | rfl | rfl | rfl | rfl <;> exact ⟨_, rfl, rfl⟩
def fo_seal (s p n salt : Int32) : Int64 := (((((((salt.toInt64 * (31 : Int64)) + s.toInt64) * (1009 : Int64)) + p.toInt64) * (1013 : Int64)) + n.toInt64) * (6364136223846793005 : Int64)) ^^^ (((((((((salt.toInt64 * (31 : Int64)) + s.toInt64) * (1009 : Int64)) + p.toInt64) * (1013 : Int64)) + n.toInt64) * (6364136223846793005 : Int64)).toUInt64 >>> ((29 : Int32).toInt64.toUInt64 &&& Int64.toUInt64 63)).toInt64)
theorem q_so (σ : fo_S) (s p n salt : Int32) : q_FairOrder_sealOf σ s p n salt = some (fo_seal s p n salt) := by
  unfold q_FairOrder_sealOf fo_seal
  rfl
theorem r_se (τ : fo_S) {s p n : Int32} (salt : Int32) (h : (0 ≤ s.toInt ∧ s.toInt ≤ 1) ∧ (1 ≤ p.toInt ∧ p.toInt ≤ 1000) ∧ 1 ≤ n.toInt ∧ n.toInt ≤ 1000) : r_seal τ s p n salt = some (fo_seal s p n salt) := by
  unfold r_seal fo_seal
  have e10 : ¬ ((1 : Int32) = 0) := by decide
  simp only [r_isOf, if_pos h, Option.bind_some, if_neg e10]
