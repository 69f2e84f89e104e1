-- small functions, in plain words
theorem q_may (σ : fo_S) (a : Int64) : q_FairOrder_mayBeginWith σ a = some (if 0 ≤ a ∧ a ≤ 1000000000 then 1 else 0) := by
  unfold q_FairOrder_mayBeginWith
  simp only [lg_cmp_lt, lg_cmp_gt]
  by_cases h1 : a < 0
  · have : ¬ (0 : Int64) ≤ a := by rw [fj_le]; rw [fj_lt] at h1; omega
    simp [h1, this]
  · have h1' : (0 : Int64) ≤ a := by rw [fj_le]; rw [fj_lt] at h1; omega
    by_cases h2 : (1000000000 : Int64) < a
    · have : ¬ a ≤ (1000000000 : Int64) := by rw [fj_le]; rw [fj_lt] at h2; omega
      simp [h1, h2, this]
    · have : a ≤ (1000000000 : Int64) := by rw [fj_le]; rw [fj_lt] at h2; omega
      simp [h1, h2, this, h1']
theorem r_in' (σ : fo_S) (a lo hi : Int64) : r_in σ a lo hi = some (if lo ≤ a ∧ a ≤ hi then 1 else 0) := by
  unfold r_in
  simp only [lg_cmp_lt, lg_cmp_gt]
  by_cases h1 : a < lo
  · have : ¬ lo ≤ a := by rw [fj_le]; rw [fj_lt] at h1; omega
    simp [h1, this]
  · have h1' : lo ≤ a := by rw [fj_le]; rw [fj_lt] at h1; omega
    by_cases h2 : hi < a
    · have : ¬ a ≤ hi := by rw [fj_le]; rw [fj_lt] at h2; omega
      simp [h1, h2, this]
    · have : a ≤ hi := by rw [fj_le]; rw [fj_lt] at h2; omega
      simp [h1, h2, this, h1']
theorem q_isC {σ : fo_S} {a : Int32} {nc : Nat} (hc : σ.1 0 0 9 = nI nc) (hn : nc ≤ 16) : q_FairOrder_isCall σ a = some (if 0 ≤ a.toInt ∧ a.toInt < nc then 1 else 0) := by
  unfold q_FairOrder_isCall
  rw [hc]
  have h1 : (a < 0) ↔ ¬ 0 ≤ a.toInt := by rw [fi_lt]; simp
  have h2 : (nI nc ≤ a) ↔ ¬ a.toInt < nc := by rw [fi_le, fi_nI (by omega)]; omega
  simp only [h1, h2]
  by_cases c1 : 0 ≤ a.toInt <;> by_cases c2 : a.toInt < nc <;> simp [c1, c2]
theorem q_isA {σ : fo_S} {a : Int32} {na : Nat} (hc : σ.1 0 0 8 = nI na) (hn : na ≤ 8) : q_FairOrder_isAccount σ a = some (if 0 ≤ a.toInt ∧ a.toInt < na then 1 else 0) := by
  unfold q_FairOrder_isAccount
  rw [hc]
  have h1 : (a < 0) ↔ ¬ 0 ≤ a.toInt := by rw [fi_lt]; simp
  have h2 : (nI na ≤ a) ↔ ¬ a.toInt < na := by rw [fi_le, fi_nI (by omega)]; omega
  simp only [h1, h2]
  by_cases c1 : 0 ≤ a.toInt <;> by_cases c2 : a.toInt < na <;> simp [c1, c2]
theorem f_in01 {P : Prop} {i : Decidable P} : (@ite Int32 P i 1 0 = 0 ∨ @ite Int32 P i 1 0 = 1) := by
  by_cases h : P <;> simp [h]
theorem f_if0 {P : Prop} {i : Decidable P} : (@ite Int32 P i 1 0 = 0) ↔ ¬ P := by
  by_cases h : P <;> simp [h]
theorem r_isC {τ : fo_S} {a : Int32} {nc : Nat} (hc : τ.1 0 0 8 = nI nc) (hn : nc ≤ 16) : r_isCall τ a = some (if 0 ≤ a.toInt ∧ a.toInt < nc then 1 else 0) := by
  unfold r_isCall
  rw [r_in', hc]
  have h1 : (((nI nc).toInt64) - (1 : Int64)).toInt = (nc : Int) - 1 := by
    rw [fj_sub (by rw [fj_l (by omega)]; simp; omega) (by rw [fj_l (by omega)]; simp; omega), fj_l (by omega)]
    rfl
  have h2 : ((0 : Int64) ≤ a.toInt64 ∧ a.toInt64 ≤ ((nI nc).toInt64) - (1 : Int64)) ↔ (0 ≤ a.toInt ∧ a.toInt < nc) := by
    rw [fj_le, fj_le, h1, fi_j]
    simp
    omega
  simp only [h2, Option.bind_some, f_in01, if_true]
theorem r_isOf (τ : fo_S) (s p n : Int32) : r_isOffer τ s p n = some (if (0 ≤ s.toInt ∧ s.toInt ≤ 1) ∧ (1 ≤ p.toInt ∧ p.toInt ≤ 1000) ∧ 1 ≤ n.toInt ∧ n.toInt ≤ 1000 then 1 else 0) := by
  unfold r_isOffer
  simp only [r_in', Option.bind_some, f_if0, fj_le, fi_j]
  have e0 : (0 : Int64).toInt = 0 := rfl
  have e1 : (1 : Int64).toInt = 1 := rfl
  have e2 : (1000 : Int64).toInt = 1000 := rfl
  rw [e0, e1, e2]
  by_cases c1 : 0 ≤ s.toInt ∧ s.toInt ≤ 1 <;> by_cases c2 : 1 ≤ p.toInt ∧ p.toInt ≤ 1000 <;> by_cases c3 : 1 ≤ n.toInt ∧ n.toInt ≤ 1000 <;> simp [c1, c2, c3]
theorem q_areT (σ : fo_S) (s p n : Int32) : q_FairOrder_areTerms σ s p n = some (if (0 ≤ s.toInt ∧ s.toInt ≤ 1) ∧ (1 ≤ p.toInt ∧ p.toInt ≤ 1000) ∧ 1 ≤ n.toInt ∧ n.toInt ≤ 1000 then 1 else 0) := by
  unfold q_FairOrder_areTerms q_FairOrder_areTerms_J9
  have a1 : (s = 0) ↔ s.toInt = 0 := by rw [fi_eq]; rfl
  have a2 : (s = (1 : Int32)) ↔ s.toInt = 1 := by rw [fi_eq]; rfl
  have b1 : (p < (1 : Int32)) ↔ p.toInt < 1 := by rw [fi_lt]; rfl
  have b2 : ((1000 : Int32) < p) ↔ 1000 < p.toInt := by rw [fi_lt]; rfl
  have d1 : (n < (1 : Int32)) ↔ n.toInt < 1 := by rw [fi_lt]; rfl
  have d2 : ((1000 : Int32) < n) ↔ 1000 < n.toInt := by rw [fi_lt]; rfl
  simp only [a1, a2, b1, b2, d1, d2]
  repeat' split
  all_goals first | rfl | (exfalso; omega)
theorem s_seal {i : Nat} {σ τ : fo_S} (_ : i ≤ 3072) (_ : Rl i σ τ) {a1 : Int32} {a2 : Int32} {a3 : Int32} {a4 : Int32} : ∃ r : Int64, q_FairOrder_seal σ a1 a2 a3 a4 = some r ∧ r_seal τ a1 a2 a3 a4 = some r := by
  unfold q_FairOrder_seal r_seal
  rw [q_areT, r_isOf]
  by_cases h : (0 ≤ a1.toInt ∧ a1.toInt ≤ 1) ∧ (1 ≤ a2.toInt ∧ a2.toInt ≤ 1000) ∧ 1 ≤ a3.toInt ∧ a3.toInt ≤ 1000
  · simp only [if_pos h, Option.bind_some]
    exact ⟨_, rfl, rfl⟩
  · simp only [if_neg h, Option.bind_some]
    exact ⟨_, rfl, rfl⟩
