theorem fi_add {x y : Int32} (h1 : -2147483648 ≤ x.toInt + y.toInt) (h2 : x.toInt + y.toInt < 2147483648) : (x + y).toInt = x.toInt + y.toInt := by
  rw [Int32.toInt_add]
  exact Int.bmod_eq_of_le (by omega) (by omega)
/-- votes of the first nodes -/
def f_vs (x y : Nat → Int32) : Nat → Int
  | 0 => 0
  | n + 1 => f_vs x y n + (if x n < y n then 1 else if y n < x n then -1 else 0)
theorem f_vs_b (x y : Nat → Int32) (n : Nat) : -(n : Int) ≤ f_vs x y n ∧ f_vs x y n ≤ n := by
  induction n with
  | zero => exact ⟨by simp [f_vs], by simp [f_vs]⟩
  | succ n ih =>
    unfold f_vs
    split
    · omega
    · split <;> omega
def f_ah (x y : Nat → Int32) : Bool := decide (0 < f_vs x y 5)
theorem f_vs_cg {x y x' y' : Nat → Int32} {n : Nat} (h : ∀ i, i < n → x i = x' i ∧ y i = y' i) : f_vs x y n = f_vs x' y' n := by
  induction n with
  | zero => rfl
  | succ n ih =>
    unfold f_vs
    rw [ih (fun i hi => h i (by omega)), (h n (by omega)).1, (h n (by omega)).2]
theorem q_ah (σ : fo_S) (a b : Nat) : q_Call_isAheadOf σ a b = some (b1 (f_ah (σ.1 15 a) (σ.1 15 b))) := by
  unfold q_Call_isAheadOf
  obtain ⟨y, hy, hy1⟩ := fo_lp_for (b := q_Call_isAheadOf_L4 σ a b) 5 (fun n s => s.2 = nI n ∧ s.1.toInt = f_vs (σ.1 15 a) (σ.1 15 b) n) (fun y => y.1.toInt = f_vs (σ.1 15 a) (σ.1 15 b) 5) (by
    rintro n ⟨u, v⟩ hn ⟨h1, h2⟩
    simp only at h1 h2
    subst h1
    left
    unfold q_Call_isAheadOf_L4 q_Integer_compare
    have v5 := f_vi (c := n) (N := 5) hn (by omega)
    have n5 : ¬ ((5 : Int32) ≤ nI n) := by
      have := f_nge (a := 5) (b := n) hn (by omega)
      exact this
    simp only [if_neg n5, if_pos v5, f_cl (show n < 1000000 by omega)]
    have hb := f_vs_b (σ.1 15 a) (σ.1 15 b) n
    have t1 : (1 : Int32).toInt = 1 := rfl
    have t2 : (-1 : Int32).toInt = -1 := rfl
    have t3 : (0 : Int32).toInt = 0 := rfl
    have e : f_vs (σ.1 15 a) (σ.1 15 b) (n + 1) = f_vs (σ.1 15 a) (σ.1 15 b) n + (if σ.1 15 a n < σ.1 15 b n then 1 else if σ.1 15 b n < σ.1 15 a n then -1 else 0) := rfl
    by_cases c1 : σ.1 15 a n ≤ σ.1 15 b n
    · by_cases c2 : σ.1 15 b n = σ.1 15 a n
      · simp only [if_pos c1, if_pos c2, Option.bind_some, nI_1]
        refine ⟨_, rfl, rfl, ?_⟩
        rw [e, c2]
        simp only [fi_lt, Int.lt_irrefl, if_false]
        rw [fi_add (by omega) (by omega), h2]
        omega
      · simp only [if_pos c1, if_neg c2, Option.bind_some, nI_1]
        refine ⟨_, rfl, rfl, ?_⟩
        rw [fi_le] at c1
        rw [fi_eq] at c2
        rw [e, if_pos (by rw [fi_lt]; omega), fi_add (by omega) (by omega), h2]
        omega
    · simp only [if_neg c1, Option.bind_some, nI_1]
      refine ⟨_, rfl, rfl, ?_⟩
      rw [fi_le] at c1
      rw [e, if_neg (by rw [fi_lt]; omega), if_pos (by rw [fi_lt]; omega), fi_add (by omega) (by omega), h2]
      omega) (by
    rintro ⟨u, v⟩ ⟨h1, h2⟩
    simp only at h1 h2
    subst h1
    unfold q_Call_isAheadOf_L4
    have n5 : ((5 : Int32) ≤ nI 5) := by decide
    simp only [if_pos n5]
    exact ⟨_, rfl, h2⟩) (s0 := ((0 : Int32), (0 : Int32))) ⟨rfl, rfl⟩ (by omega)
  rw [hy]
  simp only [Option.bind_some]
  unfold f_ah
  have t3 : (0 : Int32).toInt = 0 := rfl
  by_cases c : y.1 ≤ 0
  · rw [if_pos c]
    rw [fi_le] at c
    rw [decide_eq_false (by omega)]
    rfl
  · rw [if_neg c]
    rw [fi_le] at c
    rw [decide_eq_true (by omega)]
    rfl
theorem r_ah {x : Nat → Nat → Int32} {τ : fo_S} {a b : Nat} (ha : a < 16) (hb : b < 16) (h1 : ∀ n, n < 5 → Rt (x a n) (τ.1 10 0 (5 * a + n))) (h2 : ∀ n, n < 5 → Rt (x b n) (τ.1 10 0 (5 * b + n))) : r_isAhead τ (nI a) (nI b) = some (b1 (f_ah (x a) (x b))) := by
  unfold r_isAhead
  have ix : ∀ c n, c < 16 → n < 5 → ((5 : Int32) * nI c + nI n) = nI (5 * c + n) := by
    intro c n hc hn
    have : (5 : Int32) = nI 5 := rfl
    have h := (Int32.ofNat_mul 5 c).symm
    have h2 : (5 : Int32) * nI c = nI (5 * c) := h
    rw [h2, nI_add]
  have tm : ∀ (w t : Int32) (α : Type) (f : Int32 → α), Rt w t → (if 0 ≤ t then f t else f 1000001) = f w := by
    intro w t α f hr
    rcases hr with ⟨rfl, rfl⟩ | ⟨rfl, h, -⟩
    · rw [if_neg (by decide)]
    · rw [if_pos (by rw [fi_le]; exact h)]
  obtain ⟨y, hy, hy1⟩ := fo_lp_for (b := r_isAhead_L5 τ (nI a) (nI b)) 5 (fun n s => s.2 = nI n ∧ s.1.toInt = f_vs (x a) (x b) n) (fun y => y.1.toInt = f_vs (x a) (x b) 5) (by
    rintro n ⟨u, v⟩ hn ⟨g1, g2⟩
    simp only at g1 g2
    subst g1
    left
    unfold r_isAhead_L5
    have va := f_vi (c := 5 * a + n) (N := 80) (by omega) (by omega)
    have vb := f_vi (c := 5 * b + n) (N := 80) (by omega) (by omega)
    have n5 : ¬ ((5 : Int32) ≤ nI n) := by
      have := f_nge (a := 5) (b := n) hn (by omega)
      exact this
    simp only [if_neg n5, ix a n ha hn, if_pos va, f_cl (show 5 * a + n < 1000000 by omega)]
    rw [tm (x a n) _ _ (fun z => r_isAhead_J41 τ (nI b) (u, nI n) z) (h1 n hn)]
    unfold r_isAhead_J41
    simp only [ix b n hb hn, if_pos vb, f_cl (show 5 * b + n < 1000000 by omega)]
    rw [tm (x b n) _ _ (fun z => r_isAhead_J73 (u, nI n) (x a n) z) (h2 n hn)]
    unfold r_isAhead_J73
    have hb := f_vs_b (x a) (x b) n
    have t1 : (1 : Int32).toInt = 1 := rfl
    have t2 : (-1 : Int32).toInt = -1 := rfl
    have t3 : (0 : Int32).toInt = 0 := rfl
    have e : f_vs (x a) (x b) (n + 1) = f_vs (x a) (x b) n + (if x a n < x b n then 1 else if x b n < x a n then -1 else 0) := rfl
    by_cases c1 : x b n ≤ x a n
    · by_cases c2 : x a n ≤ x b n
      · simp only [if_pos c1, if_pos c2, nI_1]
        refine ⟨_, rfl, rfl, ?_⟩
        rw [fi_le] at c1 c2
        rw [e, if_neg (by rw [fi_lt]; omega), if_neg (by rw [fi_lt]; omega), fi_add (by omega) (by omega), g2]
        omega
      · simp only [if_pos c1, if_neg c2, nI_1]
        refine ⟨_, rfl, rfl, ?_⟩
        rw [fi_le] at c1 c2
        rw [e, if_neg (by rw [fi_lt]; omega), if_pos (by rw [fi_lt]; omega), fi_add (by omega) (by omega), g2]
        omega
    · simp only [if_neg c1, nI_1]
      refine ⟨_, rfl, rfl, ?_⟩
      rw [fi_le] at c1
      rw [e, if_pos (by rw [fi_lt]; omega), fi_add (by omega) (by omega), g2]
      omega) (by
    rintro ⟨u, v⟩ ⟨h1, h2⟩
    simp only at h1 h2
    subst h1
    unfold r_isAhead_L5
    have n5 : ((5 : Int32) ≤ nI 5) := by decide
    simp only [if_pos n5]
    exact ⟨_, rfl, h2⟩) (s0 := ((0 : Int32), (0 : Int32))) ⟨rfl, rfl⟩ (by omega)
  rw [hy]
  simp only [Option.bind_some]
  unfold f_ah
  have t3 : (0 : Int32).toInt = 0 := rfl
  by_cases c : y.1 ≤ 0
  · rw [if_pos c]
    rw [fi_le] at c
    rw [decide_eq_false (by omega)]
    rfl
  · rw [if_neg c]
    rw [fi_le] at c
    rw [decide_eq_true (by omega)]
    rfl
