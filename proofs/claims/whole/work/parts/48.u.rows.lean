/-- a row f of n with those below m that K holds of behind it -/
def xR (K : Nat → Bool) (f : Nat → Nat) (n : Nat) : Nat → Nat → Nat
  | 0 => f
  | m + 1 => if K m then (fun k => if k = n + fo_n K m then m else xR K f n m k) else xR K f n m
theorem xR_lo {K : Nat → Bool} {f : Nat → Nat} {n : Nat} : ∀ m k, k < n → xR K f n m k = f k := by
  intro m
  induction m with
  | zero => intro k _; rfl
  | succ m ih =>
    intro k hk
    rw [xR]
    by_cases hK : K m = true
    · rw [if_pos hK]
      show (if k = n + fo_n K m then m else xR K f n m k) = f k
      rw [if_neg (by omega)]
      exact ih k hk
    · rw [if_neg hK]
      exact ih k hk
theorem xR_hi {K : Nat → Bool} {f : Nat → Nat} {n : Nat} : ∀ m k, n ≤ k → k < n + fo_n K m → xR K f n m k < m ∧ K (xR K f n m k) = true ∧ n + fo_n K (xR K f n m k) = k := by
  intro m
  induction m with
  | zero => intro k h1 h2; exact absurd h2 (by simp [fo_n]; omega)
  | succ m ih =>
    intro k h1 h2
    rw [fo_n] at h2
    rw [xR]
    by_cases hK : K m = true
    · rw [if_pos hK]
      rw [if_pos hK] at h2
      show (if k = n + fo_n K m then m else xR K f n m k) < m + 1 ∧ K (if k = n + fo_n K m then m else xR K f n m k) = true ∧ n + fo_n K (if k = n + fo_n K m then m else xR K f n m k) = k
      by_cases hk : k = n + fo_n K m
      · rw [if_pos hk]
        exact ⟨by omega, hK, hk.symm⟩
      · rw [if_neg hk]
        obtain ⟨g1, g2, g3⟩ := ih k h1 (by omega)
        exact ⟨by omega, g2, g3⟩
    · rw [if_neg hK]
      rw [if_neg hK] at h2
      obtain ⟨g1, g2, g3⟩ := ih k h1 (by omega)
      exact ⟨by omega, g2, g3⟩
theorem fo_n_le2 {p : Nat → Bool} {a b : Nat} (h : a ≤ b) : fo_n p a ≤ fo_n p b := by
  obtain ⟨d, rfl⟩ : ∃ d, b = a + d := ⟨b - a, by omega⟩
  rw [fo_n_ad]
  omega
theorem fo_n_st {p : Nat → Bool} {a b : Nat} (h : a < b) (hp : p a = true) : fo_n p a < fo_n p b := by
  have := fo_n_le2 (p := p) (show a + 1 ≤ b from h)
  rw [fo_n, if_pos hp] at this
  omega
theorem fo_n_inj {p : Nat → Bool} {a b : Nat} (ha : p a = true) (hb : p b = true) (h : fo_n p a = fo_n p b) : a = b := by
  rcases Nat.lt_trichotomy a b with q | q | q
  · have := fo_n_st q ha
    omega
  · exact q
  · have := fo_n_st q hb
    omega
theorem xR_at {K : Nat → Bool} {f : Nat → Nat} {n m c : Nat} (hc : c < m) (hK : K c = true) : xR K f n m (n + fo_n K c) = c := by
  obtain ⟨g1, g2, g3⟩ := xR_hi (K := K) (f := f) (n := n) m (n + fo_n K c) (by omega) (by have := fo_n_st hc hK; omega)
  exact fo_n_inj g2 hK (by omega)
/-- what a row of calls is -/
def Rk (nc : Nat) (O : Nat → Bool) (n : Nat) (f : Nat → Nat) : Prop := (∀ k, k < n → f k < nc ∧ O (f k) = true) ∧ ∀ j k, j < n → k < n → f j = f k → j = k
theorem xR_Rk {nc : Nat} {O K : Nat → Bool} {n : Nat} {f : Nat → Nat} (h : Rk nc O n f) (hf : ∀ k, k < n → K (f k) = false) (hK : ∀ c, c < nc → K c = true → O c = true) : Rk nc O (n + fo_n K nc) (xR K f n nc) := by
  refine ⟨fun k hk => ?_, fun j k hj hk e => ?_⟩
  · by_cases h1 : k < n
    · rw [xR_lo nc k h1]
      exact h.1 k h1
    · obtain ⟨g1, g2, g3⟩ := xR_hi (K := K) (f := f) (n := n) nc k (by omega) hk
      exact ⟨g1, hK _ g1 g2⟩
  · by_cases h1 : j < n <;> by_cases h2 : k < n
    · rw [xR_lo nc j h1, xR_lo nc k h2] at e
      exact h.2 j k h1 h2 e
    · obtain ⟨g1, g2, g3⟩ := xR_hi (K := K) (f := f) (n := n) nc k (by omega) hk
      rw [← e, xR_lo nc j h1, hf j h1] at g2
      exact absurd g2 (by decide)
    · obtain ⟨g1, g2, g3⟩ := xR_hi (K := K) (f := f) (n := n) nc j (by omega) hj
      rw [e, xR_lo nc k h2, hf k h2] at g2
      exact absurd g2 (by decide)
    · obtain ⟨g1, g2, g3⟩ := xR_hi (K := K) (f := f) (n := n) nc k (by omega) hk
      obtain ⟨l1, l2, l3⟩ := xR_hi (K := K) (f := f) (n := n) nc j (by omega) hj
      rw [e] at l3
      omega
def oR (O : Nat → Bool) (nc : Nat) : Nat → Nat := xR O (fun _ => 0) 0 nc
theorem oR_Rk (O : Nat → Bool) (nc : Nat) : Rk nc O (fo_n O nc) (oR O nc) := by
  have := xR_Rk (nc := nc) (O := O) (K := O) (n := 0) (f := fun _ => 0) ⟨fun k hk => absurd hk (Nat.not_lt_zero k), fun j k hj => absurd hj (Nat.not_lt_zero j)⟩ (fun k hk => absurd hk (Nat.not_lt_zero k)) (fun _ _ h => h)
  rw [Nat.zero_add] at this
  exact this
theorem oR_at {O : Nat → Bool} {nc c : Nat} (hc : c < nc) (hO : O c = true) : oR O nc (fo_n O c) = c := by
  have := xR_at (K := O) (f := fun _ => 0) (n := 0) hc hO
  rw [Nat.zero_add] at this
  exact this
-- the class's row
def Rq (n : Nat) (f : Nat → Nat) (σ : fo_S) : Prop := σ.1 5 0 1 = nI n ∧ ∀ k, k < n → σ.1 6 0 k = nI (f k)
def F56 (σ' σ : fo_S) : Prop := σ'.2 = σ.2 ∧ ∀ k i j, ¬ (k = 5 ∧ i = 0 ∧ j = 1) → ¬ (k = 6 ∧ i = 0) → σ'.1 k i j = σ.1 k i j
theorem F56_r (σ : fo_S) : F56 σ σ := ⟨rfl, fun _ _ _ _ _ => rfl⟩
theorem F56_t {σ σ' σ'' : fo_S} (h : F56 σ'' σ') (h' : F56 σ' σ) : F56 σ'' σ := ⟨h.1.trans h'.1, fun k i j h1 h2 => (h.2 k i j h1 h2).trans (h'.2 k i j h1 h2)⟩
theorem q_radd {n c : Nat} {f : Nat → Nat} {σ : fo_S} (hn : n < 16) (h : Rq n f σ) : ∃ σ' : fo_S, q_Row_add σ 0 (nI c) = some σ' ∧ Rq (n + 1) (fun k => if k = n then c else f k) σ' ∧ F56 σ' σ := by
  unfold q_Row_add
  have c1 : ¬ ((16 : Int32) ≤ nI n) := f_nge (a := 16) hn (by omega)
  have e1 : ∀ v : Int32, (fo_pI σ 6 0 n v).1 5 0 1 = nI n := fun v => by
    rw [e_pI, if_neg (by omega)]
    exact h.1
  simp only [h.1, if_neg c1, if_pos (f_vi (c := n) (N := 16) hn (by omega)), f_cl (show n < 1000000 by omega), e1, nI_1]
  refine ⟨_, rfl, ⟨by rw [e_pI, if_pos ⟨rfl, rfl, rfl⟩], fun k hk => ?_⟩, rfl, fun k i j h1 h2 => ?_⟩
  · rw [e_pI, if_neg (by omega), e_pI]
    show _ = nI (if k = n then c else f k)
    by_cases hkn : k = n
    · rw [if_pos ⟨rfl, rfl, hkn⟩, if_pos hkn]
    · rw [if_neg (fun q => hkn q.2.2), if_neg hkn]
      exact h.2 k (by omega)
  · rw [e_pI, if_neg h1, e_pI, if_neg (fun q => h2 ⟨q.1, q.2.1⟩)]
theorem q_xadd {m n : Nat} {K : Nat → Bool} {f : Nat → Nat} {z σ : fo_S} (hK : K m = true) (hn : n + fo_n K (m + 1) ≤ 16) (h : Rq (n + fo_n K m) (xR K f n m) z) (hF : F56 z σ) : ∃ z' : fo_S, q_Row_add z 0 (nI m) = some z' ∧ Rq (n + fo_n K (m + 1)) (xR K f n (m + 1)) z' ∧ F56 z' σ := by
  have e : fo_n K (m + 1) = fo_n K m + 1 := by rw [fo_n, if_pos hK]
  rw [e] at hn
  obtain ⟨z', h1, h2, h3⟩ := q_radd (c := m) (by omega) h
  refine ⟨z', h1, ?_, F56_t h3 hF⟩
  rw [e, xR, if_pos hK]
  exact h2
theorem xR_no {m n : Nat} {K : Nat → Bool} {f : Nat → Nat} {z : fo_S} (hK : K m = false) (h : Rq (n + fo_n K m) (xR K f n m) z) : Rq (n + fo_n K (m + 1)) (xR K f n (m + 1)) z := by
  rw [fo_n, xR, hK]
  exact h
theorem q_addSet {nc n : Nat} {K : Nat → Bool} {w : Int32} {f : Nat → Nat} {σ : fo_S} (hnc : nc ≤ 16) (hw : Bs nc K w) (h : Rq n f σ) (hn : n + fo_n K nc ≤ 16) : ∃ σ' : fo_S, q_Links_addSet σ 0 w (nI nc) = some σ' ∧ Rq (n + fo_n K nc) (xR K f n nc) σ' ∧ F56 σ' σ := by
  unfold q_Links_addSet
  obtain ⟨y, hy, hy1, hy2⟩ := fo_lp_for (b := q_Links_addSet_L2 0 w (nI nc)) nc (fun m s => s.1 = nI m ∧ Rq (n + fo_n K m) (xR K f n m) s.2 ∧ F56 s.2 σ) (fun y => Rq (n + fo_n K nc) (xR K f n nc) y.2 ∧ F56 y.2 σ) (by
    rintro m ⟨x, z⟩ hm ⟨h1, h2, h3⟩
    simp only at h1 h2 h3
    subst h1
    left
    unfold q_Links_addSet_L2
    simp only [if_neg (f_nge hm (show nc < 1000000 by omega)), q_has hw hm hnc, Option.bind_some, b1_0, nI_1]
    cases hK : K m with
    | false =>
      simp only [if_true]
      exact ⟨_, rfl, rfl, xR_no hK h2, h3⟩
    | true =>
      simp only [Bool.true_eq_false, if_false]
      obtain ⟨z', g1, g2, g3⟩ := q_xadd (z := z) hK (by have := fo_n_le2 (p := K) (show m + 1 ≤ nc from hm); omega) h2 h3
      rw [g1]
      exact ⟨_, rfl, rfl, g2, g3⟩) (by
    rintro ⟨x, z⟩ ⟨h1, h2, h3⟩
    simp only at h1 h2 h3
    subst h1
    unfold q_Links_addSet_L2
    simp only [if_pos (f_ge (Nat.le_refl nc) (show nc < 1000000 by omega))]
    exact ⟨_, rfl, h2, h3⟩) (s0 := ((0 : Int32), σ)) ⟨rfl, h, F56_r σ⟩ (by omega)
  rw [hy]
  exact ⟨_, rfl, hy1, hy2⟩
theorem q_adN {nc : Nat} {O : Nat → Bool} {σ : fo_S} (hnc : nc ≤ 16) (h9 : σ.1 0 0 9 = nI nc) (hO : ∀ c, c < nc → σ.1 14 c 4 = b1 (O c)) (h5 : σ.1 5 0 1 = 0) : ∃ σ' : fo_S, q_FairOrder_addByNumbers σ = some σ' ∧ Rq (fo_n O nc) (oR O nc) σ' ∧ F56 σ' σ := by
  unfold q_FairOrder_addByNumbers
  obtain ⟨y, hy, hy1, hy2⟩ := fo_lp_for (b := q_FairOrder_addByNumbers_L2) nc (fun m s => s.1 = nI m ∧ Rq (0 + fo_n O m) (xR O (fun _ => 0) 0 m) s.2 ∧ F56 s.2 σ) (fun y => Rq (0 + fo_n O nc) (xR O (fun _ => 0) 0 nc) y.2 ∧ F56 y.2 σ) (by
    rintro m ⟨x, z⟩ hm ⟨h1, h2, h3⟩
    simp only at h1 h2 h3
    subst h1
    left
    unfold q_FairOrder_addByNumbers_L2
    have e9 : z.1 0 0 9 = nI nc := by rw [h3.2 0 0 9 (by omega) (by omega)]; exact h9
    have e4 : z.1 14 m 4 = b1 (O m) := by rw [h3.2 14 m 4 (by omega) (by omega)]; exact hO m hm
    simp only [e9, if_neg (f_nge hm (show nc < 1000000 by omega)), if_pos (f_vi (c := m) (N := 16) (by omega) (by omega)), f_cl (show m < 1000000 by omega), e4, b1_0, nI_1]
    cases hK : O m with
    | false =>
      simp only [if_true]
      exact ⟨_, rfl, rfl, xR_no hK h2, h3⟩
    | true =>
      simp only [Bool.true_eq_false, if_false]
      obtain ⟨z', g1, g2, g3⟩ := q_xadd (z := z) hK (by have := fo_n_le O (m + 1); omega) h2 h3
      rw [g1]
      exact ⟨_, rfl, rfl, g2, g3⟩) (by
    rintro ⟨x, z⟩ ⟨h1, h2, h3⟩
    simp only at h1 h2 h3
    subst h1
    unfold q_FairOrder_addByNumbers_L2
    have e9 : z.1 0 0 9 = nI nc := by rw [h3.2 0 0 9 (by omega) (by omega)]; exact h9
    simp only [e9, if_pos (f_ge (Nat.le_refl nc) (show nc < 1000000 by omega))]
    exact ⟨_, rfl, h2, h3⟩) (s0 := ((0 : Int32), σ)) ⟨rfl, ⟨h5, fun k hk => absurd hk (Nat.not_lt_zero k)⟩, F56_r σ⟩ (by omega)
  rw [hy]
  rw [Nat.zero_add] at hy1
  exact ⟨_, rfl, hy1, hy2⟩
