theorem fo_lp_run {σ ε : Type} {b : σ → Option (σ ⊕ ε)} (st : Nat → σ) (N : Nat) (y : ε) (hs : ∀ n, n < N → b (st n) = some (.inl (st (n + 1)))) (he : b (st N) = some (.inr y)) : ∀ f, N < f → fo_lp b f (st 0) = some y := by
  have key : ∀ d k, k + d = N → ∀ f, d < f → fo_lp b f (st k) = some y := by
    intro d
    induction d with
    | zero =>
      intro k hk f hf
      obtain ⟨f', rfl⟩ : ∃ f', f = f' + 1 := ⟨f - 1, by omega⟩
      have : k = N := by omega
      subst this
      rw [fo_lp, he]
    | succ d ih =>
      intro k hk f hf
      obtain ⟨f', rfl⟩ : ∃ f', f = f' + 1 := ⟨f - 1, by omega⟩
      rw [fo_lp, hs k (by omega)]
      exact ih (k + 1) (by omega) f' (by omega)
  intro f hf
  exact key N 0 (by omega) f hf
theorem fo_FU_gt {n : Nat} (h : n < 100000) : n < fo_FU := h
theorem f_ge {a b : Nat} (h : a ≤ b) (hb : b < 1000000) : nI a ≤ nI b := nI_le h (by omega)
theorem f_nge {a b : Nat} (h : b < a) (ha : a < 1000000) : ¬ nI a ≤ nI b := nI_ge h (by omega)
theorem fo_rI_self (σ : fo_S) (k i : Nat) {f : Nat → Int32} (h : ∀ j, f j = σ.1 k i j) : fo_rI σ k i f = σ := by
  refine Prod.ext ?_ rfl
  funext a b c
  show (if a = k ∧ b = i then f c else σ.1 a b c) = σ.1 a b c
  by_cases hh : a = k ∧ b = i
  · obtain ⟨rfl, rfl⟩ := hh
    simp [h c]
  · simp [hh]
theorem fo_rI_p (σ : fo_S) (k i j : Nat) (v : Int32) {f g : Nat → Int32} (h : ∀ c, g c = if c = j then v else f c) : fo_pI (fo_rI σ k i f) k i j v = fo_rI σ k i g := by
  refine Prod.ext ?_ rfl
  funext a b c
  show (if a = k ∧ b = i ∧ c = j then v else if a = k ∧ b = i then f c else σ.1 a b c) = if a = k ∧ b = i then g c else σ.1 a b c
  by_cases hh : a = k ∧ b = i
  · by_cases hj : c = j
    · simp [hh, hj, h]
    · simp [hh, hj, h]
  · have h2 : ¬ (a = k ∧ b = i ∧ c = j) := fun q => hh ⟨q.1, q.2.1⟩
    simp [hh, h2]
def fo_cm (τ : fo_S) (nc n : Nat) : Nat → Int32 := fun j => if 5 * nc ≤ j ∧ j < 5 * nc + n then -1 else τ.1 10 0 j
theorem r_commit_lp {τ : fo_S} {nc : Nat} (h : τ.1 0 0 8 = nI nc) (hn : nc < 16) : fo_lp r_commit_L120 fo_FU ((0 : Int32), τ) = some (nI 5, fo_rI τ 10 0 (fo_cm τ nc 5)) := by
  have e0 : ((0 : Int32), τ) = (fun n => (nI n, fo_rI τ 10 0 (fo_cm τ nc n))) 0 := by
    show (0, τ) = (nI 0, fo_rI τ 10 0 (fo_cm τ nc 0))
    rw [fo_rI_self τ 10 0 (f := fo_cm τ nc 0) (fun j => by simp [fo_cm]; omega)]
    rfl
  rw [e0]
  refine fo_lp_run (fun n => (nI n, fo_rI τ 10 0 (fo_cm τ nc n))) 5 (nI 5, fo_rI τ 10 0 (fo_cm τ nc 5)) ?_ ?_ fo_FU (fo_FU_gt (by omega))
  · intro n hn5
    unfold r_commit_L120
    have c1 : ¬ ((5 : Int32) ≤ nI n) := f_nge (a := 5) hn5 (by omega)
    have x1 : (fo_rI τ 10 0 (fo_cm τ nc n)).1 0 0 8 = nI nc := by simp [e_rI, h]
    have v := f_vi (c := 5 * nc + n) (N := 80) (by omega) (by omega)
    simp only [if_neg c1, x1, f_5, if_pos v, f_cl (show 5 * nc + n < 1000000 by omega)]
    rw [fo_rI_p τ 10 0 (5 * nc + n) (-1) (f := fo_cm τ nc n) (g := fo_cm τ nc (n + 1)) ?_, nI_1]
    intro c
    unfold fo_cm
    by_cases hc : c = 5 * nc + n
    · subst hc
      have : 5 * nc ≤ 5 * nc + n ∧ 5 * nc + n < 5 * nc + (n + 1) := by omega
      simp [this]
    · have : (5 * nc ≤ c ∧ c < 5 * nc + (n + 1)) ↔ (5 * nc ≤ c ∧ c < 5 * nc + n) := by omega
      simp [hc, this]
  · unfold r_commit_L120
    have c1 : ((5 : Int32) ≤ nI 5) := by decide
    simp only [if_pos c1]
