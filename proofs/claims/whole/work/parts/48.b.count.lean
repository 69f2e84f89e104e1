-- counting
def fo_n (p : Nat → Bool) : Nat → Nat
  | 0 => 0
  | n + 1 => fo_n p n + (if p n then 1 else 0)
theorem fo_n_le (p : Nat → Bool) (n : Nat) : fo_n p n ≤ n := by
  induction n with
  | zero => exact Nat.le_refl 0
  | succ n ih => rw [fo_n]; split <;> omega
theorem fo_n_cg {p q : Nat → Bool} {n : Nat} (h : ∀ i, i < n → p i = q i) : fo_n p n = fo_n q n := by
  induction n with
  | zero => rfl
  | succ n ih => rw [fo_n, fo_n, ih (fun i hi => h i (by omega)), h n (by omega)]
theorem fo_n_mono {p q : Nat → Bool} {n : Nat} (h : ∀ i, i < n → p i = true → q i = true) : fo_n p n ≤ fo_n q n := by
  induction n with
  | zero => exact Nat.le_refl 0
  | succ n ih =>
    have h1 := ih (fun i hi => h i (by omega))
    have h2 := h n (by omega)
    rw [fo_n, fo_n]
    by_cases hp : p n = true
    · rw [if_pos hp, if_pos (h2 hp)]
      omega
    · rw [if_neg hp]
      omega
theorem fo_n_lt {p q : Nat → Bool} {n : Nat} (h : ∀ i, i < n → p i = true → q i = true) {k : Nat} (hk : k < n) (h1 : q k = true) (h2 : ¬ p k = true) : fo_n p n < fo_n q n := by
  induction n with
  | zero => omega
  | succ n ih =>
    have hm := fo_n_mono (n := n) (fun i hi => h i (by omega))
    have hn := h n (by omega)
    rw [fo_n, fo_n]
    by_cases hkn : k = n
    · subst hkn
      rw [if_pos h1, if_neg h2]
      omega
    · have h3 := ih (fun i hi => h i (by omega)) (by omega)
      by_cases hp : p n = true
      · rw [if_pos hp, if_pos (hn hp)]
        omega
      · rw [if_neg hp]
        omega
theorem fo_n_add {p q : Nat → Bool} {n : Nat} (h : ∀ i, i < n → ¬ (p i = true ∧ q i = true)) : fo_n (fun i => p i || q i) n = fo_n p n + fo_n q n := by
  induction n with
  | zero => rfl
  | succ n ih =>
    have h1 := ih (fun i hi => h i (by omega))
    have h2 := h n (by omega)
    rw [fo_n, fo_n, fo_n, h1]
    by_cases hp : p n = true <;> by_cases hq : q n = true
    · exact absurd ⟨hp, hq⟩ h2
    · simp [hp, hq]; omega
    · simp [hp, hq]; omega
    · simp [hp, hq]
theorem fo_n_pos {p : Nat → Bool} {n : Nat} (h : 0 < fo_n p n) : ∃ k, k < n ∧ p k = true := by
  induction n with
  | zero => exact absurd h (Nat.lt_irrefl 0)
  | succ n ih =>
    rw [fo_n] at h
    by_cases hp : p n = true
    · exact ⟨n, by omega, hp⟩
    · rw [if_neg hp] at h
      obtain ⟨k, hk, h1⟩ := ih (by omega)
      exact ⟨k, by omega, h1⟩
/-- a loop that seeks -/
theorem fo_seek {ρ : Type} {b : Int32 → Option (Int32 ⊕ (Int32 ⊕ ρ))} (N : Nat) (test : Nat → Prop) (val : Nat → ρ) (hN : N < 100000) (hs : ∀ n, n < N → ¬ test n → b (nI n) = some (.inl (nI (n + 1)))) (hv : ∀ n, n < N → test n → b (nI n) = some (.inr (.inr (val n)))) (he : b (nI N) = some (.inr (.inl (nI N)))) :
    (∃ t, t < N ∧ test t ∧ (∀ s, s < t → ¬ test s) ∧ fo_lp b fo_FU (0 : Int32) = some (.inr (val t))) ∨ ((∀ t, t < N → ¬ test t) ∧ fo_lp b fo_FU (0 : Int32) = some (.inl (nI N))) := by
  by_cases hx : ∃ t, t < N ∧ test t
  · obtain ⟨t, ⟨h1, h2⟩, h3⟩ := pk_least (fun t => t < N ∧ test t) hx
    have h4 : ∀ s, s < t → ¬ test s := fun s hs q => h3 s hs ⟨by omega, q⟩
    exact Or.inl ⟨t, h1, h2, h4, by rw [← nI_0]; exact fo_lp_run (fun n => nI n) t (.inr (val t)) (fun n hn => hs n (by omega) (h4 n hn)) (hv t h1 h2) fo_FU (fo_FU_gt (by omega))⟩
  · have h4 : ∀ t, t < N → ¬ test t := fun t ht q => hx ⟨t, ht, q⟩
    exact Or.inr ⟨h4, by rw [← nI_0]; exact fo_lp_run (fun n => nI n) N (.inl (nI N)) (fun n hn => hs n hn (h4 n hn)) he fo_FU (fo_FU_gt hN)⟩
-- the third of five
def f_L (x : Nat → Int) (v : Int) : Nat := fo_n (fun n => decide (x n < v)) 5
def f_E (x : Nat → Int) (v : Int) : Nat := fo_n (fun n => decide (x n = v)) 5
def f_rk (x : Nat → Int) (N t : Nat) : Nat := fo_n (fun n => decide (x n < x t ∨ (x n = x t ∧ n < t))) N
theorem f_rk_ex (x : Nat → Int) : ∀ N r, r < N → ∃ t, t < N ∧ f_rk x N t = r := by
  intro N
  induction N with
  | zero => intro r hr; omega
  | succ N ih =>
    intro r hr
    have hR : f_rk x (N + 1) N = fo_n (fun n => decide (x n ≤ x N)) N := by
      unfold f_rk
      rw [fo_n, if_neg (by simp)]
      refine fo_n_cg (fun i hi => ?_)
      simp only [decide_eq_decide]
      omega
    have hup : ∀ t, t < N → f_rk x (N + 1) t = f_rk x N t + (if x N < x t then 1 else 0) := by
      intro t ht
      unfold f_rk
      rw [fo_n]
      congr 1
      have : (x N < x t ∨ x N = x t ∧ N < t) ↔ x N < x t := by omega
      simp [this]
    have hRN := fo_n_le (fun n => decide (x n ≤ x N)) N
    by_cases h1 : r = fo_n (fun n => decide (x n ≤ x N)) N
    · exact ⟨N, by omega, by rw [hR]; exact h1.symm⟩
    · by_cases h2 : r < fo_n (fun n => decide (x n ≤ x N)) N
      · obtain ⟨t, ht, hrt⟩ := ih r (by omega)
        have h3 : ¬ x N < x t := by
          intro q
          have : fo_n (fun n => decide (x n ≤ x N)) N ≤ f_rk x N t := fo_n_mono (fun i _ hi2 => by simp at hi2 ⊢; omega)
          omega
        exact ⟨t, by omega, by rw [hup t ht, if_neg h3]; omega⟩
      · obtain ⟨t, ht, hrt⟩ := ih (r - 1) (by omega)
        have h3 : x N < x t := by
          refine Classical.byContradiction (fun q => ?_)
          have : f_rk x N t < fo_n (fun n => decide (x n ≤ x N)) N := by
            refine fo_n_lt (k := t) (fun i _ hi2 => by simp at hi2 ⊢; omega) ht (by simp; omega) (by simp)
          omega
        exact ⟨t, by omega, by rw [hup t ht, if_pos h3]; omega⟩
theorem f_rk_LE {x : Nat → Int} {t : Nat} (ht : t < 5) : f_L x (x t) ≤ f_rk x 5 t ∧ f_rk x 5 t < f_L x (x t) + f_E x (x t) := by
  constructor
  · exact fo_n_mono (fun i _ hi2 => by simp at hi2 ⊢; omega)
  · unfold f_L f_E
    rw [← fo_n_add (fun i _ q => by simp at q; omega)]
    exact fo_n_lt (k := t) (fun i _ hi2 => by simp at hi2 ⊢; omega) ht (by simp) (by simp)
theorem f_P_uniq {x : Nat → Int} {v w : Int} (h1 : f_L x v ≤ 2 ∧ 2 < f_L x v + f_E x v) (h2 : f_L x w ≤ 2 ∧ 2 < f_L x w + f_E x w) : v = w := by
  have key : ∀ a b : Int, a < b → f_L x a + f_E x a ≤ f_L x b := by
    intro a b hab
    unfold f_L f_E
    rw [← fo_n_add (fun i _ q => by simp at q; omega)]
    exact fo_n_mono (fun i _ hi2 => by simp at hi2 ⊢; omega)
  rcases Int.lt_trichotomy v w with h | h | h
  · have := key v w h
    omega
  · exact h
  · have := key w v h
    omega
