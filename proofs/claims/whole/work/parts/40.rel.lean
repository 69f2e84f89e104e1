-- numbers
theorem fj_add {x y : Int64} (h1 : -9223372036854775808 ≤ x.toInt + y.toInt) (h2 : x.toInt + y.toInt < 9223372036854775808) : (x + y).toInt = x.toInt + y.toInt := by
  rw [Int64.toInt_add]
  exact Int.bmod_eq_of_le (by omega) (by omega)
theorem fj_sub {x y : Int64} (h1 : -9223372036854775808 ≤ x.toInt - y.toInt) (h2 : x.toInt - y.toInt < 9223372036854775808) : (x - y).toInt = x.toInt - y.toInt := by
  rw [Int64.toInt_sub]
  exact Int.bmod_eq_of_le (by omega) (by omega)
theorem fj_mul {x y : Int64} (h1 : -9223372036854775808 ≤ x.toInt * y.toInt) (h2 : x.toInt * y.toInt < 9223372036854775808) : (x * y).toInt = x.toInt * y.toInt := by
  rw [Int64.toInt_mul]
  exact Int.bmod_eq_of_le (by omega) (by omega)
theorem fj_l {n : Nat} (h : n < 2 ^ 31) : ((nI n).toInt64).toInt = (n : Int) := by
  rw [nI_l h]
  exact lN_toInt h
theorem fj_le {x y : Int64} : x ≤ y ↔ x.toInt ≤ y.toInt := Int64.le_iff_toInt_le
theorem fj_lt {x y : Int64} : x < y ↔ x.toInt < y.toInt := Int64.lt_iff_toInt_lt
theorem fj_eq {x y : Int64} : x = y ↔ x.toInt = y.toInt := Int64.toInt_inj.symm
theorem fi_le {x y : Int32} : x ≤ y ↔ x.toInt ≤ y.toInt := Int32.le_iff_toInt_le
theorem fi_lt {x y : Int32} : x < y ↔ x.toInt < y.toInt := Int32.lt_iff_toInt_lt
theorem fi_eq {x y : Int32} : x = y ↔ x.toInt = y.toInt := Int32.toInt_inj.symm
theorem fi_j (x : Int32) : (x.toInt64).toInt = x.toInt := Int32.toInt_toInt64 x
theorem fi_vi {x : Int32} {n : Nat} (hn : n < 2 ^ 31) : fo_vi x n ↔ 0 ≤ x.toInt ∧ x.toInt < n := vp_in_iff
theorem fi_cl {x : Int32} (h : 0 ≤ x.toInt) : x = nI x.toNatClampNeg := by
  obtain ⟨j, hj, rfl⟩ := nI_of (x := x) (by rw [fi_lt]; simp; omega)
  rw [nI_clamp hj]
theorem fi_nI {n : Nat} (h : n < 2 ^ 31) : (nI n).toInt = (n : Int) := nI_toInt h
-- the relation between the class's registers and the model's
def fB (i : Nat) : Int := ((i : Int) + 1) * 2147483648
/-- a time: the class's, the model's -/
def Rt (x y : Int32) : Prop := (x = 1000001 ∧ y = -1) ∨ (x = y ∧ 0 ≤ y.toInt ∧ y.toInt ≤ 1000000)
/-- what was told when a call was made known -/
def Ro (σ τ : fo_S) (c : Nat) : Prop := ∃ sd pr am : Nat, sd ≤ 1 ∧ 1 ≤ pr ∧ pr ≤ 1000 ∧ 1 ≤ am ∧ am ≤ 1000 ∧ σ.1 14 c 5 = nI sd ∧ τ.1 7 0 c = nI sd ∧ σ.1 14 c 6 = nI pr ∧ τ.1 8 0 c = nI pr ∧ σ.1 14 c 7 = nI am ∧ τ.1 9 0 c = nI am
def Rc (na : Nat) (σ τ : fo_S) (c : Nat) : Prop :=
  (∃ o, o < na ∧ σ.1 14 c 1 = nI o ∧ τ.1 3 0 c = nI o) ∧ (σ.2 14 c 2 = τ.2 4 0 c ∧ 0 ≤ (τ.2 4 0 c).toInt ∧ (τ.2 4 0 c).toInt ≤ 1000000) ∧ σ.2 14 c 3 = τ.2 5 0 c ∧ (∀ n, n < 5 → Rt (σ.1 15 c n) (τ.1 10 0 (5 * c + n))) ∧ ((σ.1 14 c 4 = 0 ∧ τ.1 6 0 c = 0) ∨ (σ.1 14 c 4 = 1 ∧ τ.1 6 0 c = 1 ∧ Ro σ τ c))
def Rn (na nc ph : Nat) (σ τ : fo_S) : Prop := na ≤ 8 ∧ nc ≤ 16 ∧ ph ≤ 2 ∧ σ.1 0 0 8 = nI na ∧ τ.1 0 0 0 = nI na ∧ σ.1 0 0 9 = nI nc ∧ τ.1 0 0 8 = nI nc ∧ σ.1 0 0 10 = nI ph ∧ τ.1 0 0 6 = nI ph ∧ σ.1 0 0 11 = τ.1 0 0 7 ∧ σ.2 0 0 12 = τ.2 0 0 5
def Rm (i na : Nat) (σ τ : fo_S) : Prop := (σ.2 2 0 8 = τ.2 0 0 3 ∧ σ.2 3 0 8 = τ.2 0 0 4 ∧ 0 ≤ (τ.2 0 0 3).toInt ∧ (τ.2 0 0 3).toInt ≤ fB i ∧ 0 ≤ (τ.2 0 0 4).toInt ∧ (τ.2 0 0 4).toInt ≤ fB i) ∧ ∀ a, a < na → σ.2 2 0 a = τ.2 1 0 a ∧ σ.2 3 0 a = τ.2 2 0 a ∧ 0 ≤ (τ.2 1 0 a).toInt ∧ (τ.2 1 0 a).toInt + (τ.2 0 0 3).toInt ≤ fB i ∧ 0 ≤ (τ.2 2 0 a).toInt ∧ (τ.2 2 0 a).toInt ≤ fB i
/-- the row f of nr calls, all of them made known, none twice -/
def Rw (nc nr : Nat) (f : Nat → Nat) (σ τ : fo_S) : Prop := (∀ k, k < nr → σ.1 6 0 k = nI (f k) ∧ τ.1 11 0 k = nI (f k) ∧ f k < nc ∧ τ.1 6 0 (f k) = 1) ∧ ∀ j k, j < nr → k < nr → f j = f k → j = k
def Rr (nc ph : Nat) (σ τ : fo_S) : Prop :=
  ((σ.1 0 0 13 = 0 ∧ σ.1 0 0 14 = 0 ∧ τ.1 0 0 19 = 0 ∧ σ.1 5 0 1 = 0 ∧ τ.1 0 0 17 = -1) ∨ (σ.1 0 0 13 = 1 ∧ ph = 2 ∧ (∃ (nr : Nat) (f : Nat → Nat), nr ≤ nc ∧ σ.1 5 0 1 = nI nr ∧ τ.1 0 0 17 = nI nr ∧ Rw nc nr f σ τ) ∧ ((σ.1 0 0 14 = 0 ∧ τ.1 0 0 19 = 0) ∨ (σ.1 0 0 14 = 1 ∧ τ.1 0 0 19 = 1)))) ∧ (σ.1 0 0 14 = 0 → ∀ c, c < nc → σ.1 14 c 8 = 0 ∧ σ.2 14 c 9 = 0) ∧ (σ.1 0 0 14 = 1 → ∀ c, c < nc → σ.1 14 c 8 = τ.1 12 0 c ∧ σ.2 14 c 9 = τ.2 13 0 c)
def Rl (i : Nat) (σ τ : fo_S) : Prop := ∃ na nc ph : Nat, Rn na nc ph σ τ ∧ Rm i na σ τ ∧ (∀ c, c < nc → Rc na σ τ c) ∧ Rr nc ph σ τ
theorem fB_le {i j : Nat} (h : i ≤ j) : fB i ≤ fB j := by
  unfold fB
  have : (i : Int) ≤ j := by omega
  omega
theorem fB_1 (i : Nat) : fB (i + 1) = fB i + 2147483648 := by
  unfold fB
  omega
theorem fB_0 (i : Nat) : 2147483648 ≤ fB i := by
  unfold fB
  omega
theorem fB_top {i : Nat} (h : i ≤ 4000) : fB i ≤ 8600000000000 := by
  unfold fB
  omega
theorem Rm_mono {i j na : Nat} {σ τ : fo_S} (h : i ≤ j) (hm : Rm i na σ τ) : Rm j na σ τ := by
  have hB := fB_le h
  obtain ⟨⟨h1, h2, h3, h4, h5, h6⟩, h7⟩ := hm
  refine ⟨⟨h1, h2, h3, by omega, h5, by omega⟩, fun a ha => ?_⟩
  obtain ⟨g1, g2, g3, g4, g5, g6⟩ := h7 a ha
  exact ⟨g1, g2, g3, by omega, g5, by omega⟩
theorem Rl_mono {i j : Nat} {σ τ : fo_S} (h : i ≤ j) (hl : Rl i σ τ) : Rl j σ τ := by
  obtain ⟨na, nc, ph, h1, h2, h3, h4⟩ := hl
  exact ⟨na, nc, ph, h1, Rm_mono h h2, h3, h4⟩
theorem s_init : Rl 0 (fun _ _ _ => 0, fun _ _ _ => 0) fr_s0 := by
  refine ⟨0, 0, 0, ?_, ?_, fun c hc => absurd hc (Nat.not_lt_zero c), ?_⟩
  · refine ⟨by omega, by omega, by omega, ?_⟩
    simp [fr_s0, nI_0]
  · refine ⟨?_, fun a ha => absurd ha (Nat.not_lt_zero a)⟩
    simp [fr_s0, fB]
  · refine ⟨Or.inl ?_, fun _ c hc => absurd hc (Nat.not_lt_zero c), fun _ c hc => absurd hc (Nat.not_lt_zero c)⟩
    simp [fr_s0]
