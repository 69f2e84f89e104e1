-- by lot
def lotX (x : Int64) : Int64 := (x * (6364136223846793005 : Int64)) + (1442695040888963407 : Int64)
def lotU (x : Int64) : Int64 := ((lotX x).toUInt64 >>> ((33 : Int32).toInt64.toUInt64 &&& Int64.toUInt64 63)).toInt64
def lotN (x : Int64) : Nat := (lotX x).toBitVec.toNat / 2 ^ 33
theorem lotU_e (x : Int64) : lotU x = lN (lotN x) ∧ lotN x < 2 ^ 31 := by
  constructor
  · unfold lotU lotN
    generalize lotX x = y
    refine Int64.toBitVec_inj.mp ?_
    show (y.toUInt64 >>> ((33 : Int32).toInt64.toUInt64 &&& Int64.toUInt64 63)).toBitVec = BitVec.ofNat 64 _
    rw [UInt64.toBitVec_shiftRight]
    have e3 : (((33 : Int32).toInt64.toUInt64 &&& Int64.toUInt64 63).toBitVec % 64) = BitVec.ofNat 64 33 := by decide
    rw [e3, BitVec.ushiftRight_eq']
    refine BitVec.eq_of_toNat_eq ?_
    rw [BitVec.toNat_ushiftRight, BitVec.toNat_ofNat, BitVec.toNat_ofNat, Nat.shiftRight_eq_div_pow]
    show y.toBitVec.toNat / 2 ^ (33 % 2 ^ 64) = _
    rw [Nat.mod_eq_of_lt (show 33 < 2 ^ 64 by omega)]
    have := y.toBitVec.isLt
    rw [Nat.mod_eq_of_lt]
    omega
  · unfold lotN
    have := (lotX x).toBitVec.isLt
    omega
def swR (f : Nat → Nat) (p q k : Nat) : Nat := if k = q then f p else if k = p then f q else f k
def shf : Nat → Int64 → (Nat → Nat) → Nat → Nat
  | 0, _, f => f
  | p + 1, x, f => shf p (lotX x) (swR f (p + 1) (lotN x % (p + 2)))
theorem swR_Rk {nc n p q : Nat} {O : Nat → Bool} {f : Nat → Nat} (h : Rk nc O n f) (hp : p < n) (hq : q < n) : Rk nc O n (swR f p q) := by
  refine ⟨fun k hk => ?_, fun j k hj hk e => ?_⟩
  · unfold swR
    split
    · exact h.1 p hp
    · split
      · exact h.1 q hq
      · exact h.1 k hk
  · unfold swR at e
    by_cases j1 : j = q <;> by_cases k1 : k = q
    · omega
    · rw [if_pos j1, if_neg k1] at e
      by_cases k2 : k = p
      · rw [if_pos k2] at e
        have := h.2 _ _ hp hq e
        omega
      · rw [if_neg k2] at e
        have := h.2 _ _ hp hk e
        omega
    · rw [if_neg j1, if_pos k1] at e
      by_cases j2 : j = p
      · rw [if_pos j2] at e
        have := h.2 _ _ hq hp e
        omega
      · rw [if_neg j2] at e
        have := h.2 _ _ hj hp e
        omega
    · rw [if_neg j1, if_neg k1] at e
      by_cases j2 : j = p <;> by_cases k2 : k = p
      · omega
      · rw [if_pos j2, if_neg k2] at e
        have := h.2 _ _ hq hk e
        omega
      · rw [if_neg j2, if_pos k2] at e
        have := h.2 _ _ hj hq e
        omega
      · rw [if_neg j2, if_neg k2] at e
        exact h.2 _ _ hj hk e
theorem shf_Rk {nc n : Nat} {O : Nat → Bool} : ∀ (p : Nat) (x : Int64) (f : Nat → Nat), p < n → Rk nc O n f → Rk nc O n (shf p x f) := by
  intro p
  induction p with
  | zero => intro x f _ h; exact h
  | succ p ih =>
    intro x f hp h
    rw [shf]
    exact ih _ _ (by omega) (swR_Rk h (by omega) (by have := Nat.mod_lt (lotN x) (show 0 < p + 2 by omega); omega))
theorem lot_q {p : Nat} (hp : p < 16) (x : Int64) : (lotU x - lotU x / (nI (p + 1)).toInt64 * (nI (p + 1)).toInt64).toInt32 = nI (lotN x % (p + 1)) := by
  obtain ⟨h1, h2⟩ := lotU_e x
  rw [h1, nI_l (by omega), pk_lRem (by omega) (by omega) (by omega), lN_i]
theorem q_shf {n : Nat} {f : Nat → Nat} {x : Int64} {σ : fo_S} (hn : n ≤ 16) (h : Rq n f σ) : ∃ σ' : fo_S, q_Row_shuffle σ 0 x = some σ' ∧ Rq n (shf (n - 1) x f) σ' ∧ F56 σ' σ := by
  unfold q_Row_shuffle
  by_cases hn0 : n = 0
  · subst hn0
    refine ⟨σ, ?_, h, F56_r σ⟩
    rw [h.1]
    have : fo_lp (q_Row_shuffle_L10 0) fo_FU (x, nI 0 - 1, σ) = some (x, nI 0 - 1, σ) := fo_lp_run (fun _ => (x, nI 0 - 1, σ)) 0 _ (fun n hn => absurd hn (Nat.not_lt_zero n)) (by
      unfold q_Row_shuffle_L10
      have : nI 0 - 1 < (1 : Int32) := by rw [nI_0]; decide
      simp only [if_pos this]) fo_FU (fo_FU_gt (by omega))
    rw [this]
    rfl
  obtain ⟨m, rfl⟩ : ∃ m, n = m + 1 := ⟨n - 1, by omega⟩
  rw [h.1, nI_pred, Nat.add_sub_cancel]
  obtain ⟨y, hy, hy1, hy2⟩ := fo_lp_dec (b := q_Row_shuffle_L10 0) (fun p s => p ≤ m ∧ s.2.1 = nI p ∧ F56 s.2.2 σ ∧ ∃ g, Rq (m + 1) g s.2.2 ∧ shf p s.1 g = shf m x f) (fun y => Rq (m + 1) (shf m x f) y.2.2 ∧ F56 y.2.2 σ) (by
    rintro p ⟨a, b, z⟩ ⟨h1, h2, h3, g, h4, h5⟩
    simp only at h2 h3 h4 h5
    subst h2
    unfold q_Row_shuffle_L10
    cases p with
    | zero =>
      right
      have : nI 0 < (1 : Int32) := by rw [nI_0]; decide
      simp only [if_pos this]
      rw [shf] at h5
      exact ⟨_, rfl, by rw [← h5]; exact h4, h3⟩
    | succ p =>
      left
      have c0 : ¬ (nI (p + 1) < (1 : Int32)) := by
        show ¬ (nI (p + 1) < nI 1)
        rw [nI_ltI (by omega) (by omega)]
        omega
      have c1 : ¬ ((nI (p + 1 + 1)).toInt64 = 0) := by
        rw [nI_l (by omega)]
        show ¬ (lN (p + 1 + 1) = lN 0)
        rw [pk_lEQ (by omega) (by omega)]
        omega
      have hm : lotN a % (p + 1 + 1) < p + 2 := Nat.mod_lt (lotN a) (show 0 < p + 2 by omega)
      have eq := lot_q (p := p + 1) (by omega) a
      unfold lotU lotX at eq
      simp only [if_neg c0, nI_1, if_pos c1, eq, pk_m1]
      obtain ⟨z', t1, t2, t3⟩ := q_swp (σ := z) (i0 := 0) (p := p + 1) (q := lotN a % (p + 1 + 1)) (by omega) (by omega)
      rw [t1]
      refine ⟨_, p, rfl, by omega, by omega, rfl, ⟨t2.trans h3.1, fun k i j a1 a2 => ?_⟩, swR g (p + 1) (lotN a % (p + 1 + 1)), ⟨?_, fun k hk => ?_⟩, ?_⟩
      · show z'.1 k i j = _
        rw [t3, if_neg (fun q => a2 ⟨q.1, q.2.1⟩), if_neg (fun q => a2 ⟨q.1, q.2.1⟩)]
        exact h3.2 k i j a1 a2
      · show z'.1 5 0 1 = _
        rw [t3, if_neg (by omega), if_neg (by omega)]
        exact h4.1
      · show z'.1 6 0 k = _
        rw [t3]
        unfold swR
        by_cases k1 : k = lotN a % (p + 1 + 1)
        · rw [if_pos ⟨rfl, rfl, k1⟩, if_pos k1]
          exact h4.2 _ (by omega)
        · rw [if_neg (fun q => k1 q.2.2), if_neg k1]
          by_cases k2 : k = p + 1
          · rw [if_pos ⟨rfl, rfl, k2⟩, if_pos k2]
            exact h4.2 _ (by omega)
          · rw [if_neg (fun q => k2 q.2.2), if_neg k2]
            exact h4.2 _ hk
      · rw [← h5, shf]
        rfl) fo_FU m (x, nI m, σ) ⟨Nat.le_refl m, rfl, F56_r σ, f, h, rfl⟩ (fo_FU_gt (by omega))
  rw [hy]
  exact ⟨_, rfl, hy1, hy2⟩
theorem r_shf {n : Nat} {f : Nat → Nat} {x : Int64} {τ : fo_S} (hn : n ≤ 16) (h : Rp n f τ) : ∃ τ' : fo_S, r_byLot τ x = some τ' ∧ Rp n (shf (n - 1) x f) τ' ∧ F11 τ' τ := by
  unfold r_byLot
  by_cases hn0 : n = 0
  · subst hn0
    refine ⟨τ, ?_, h, F11_r τ⟩
    rw [h.1]
    have : fo_lp r_byLot_L10 fo_FU (x, nI 0 - 1, τ) = some (x, nI 0 - 1, τ) := fo_lp_run (fun _ => (x, nI 0 - 1, τ)) 0 _ (fun n hn => absurd hn (Nat.not_lt_zero n)) (by
      unfold r_byLot_L10
      have : nI 0 - 1 ≤ (0 : Int32) := by rw [nI_0]; decide
      simp only [if_pos this]) fo_FU (fo_FU_gt (by omega))
    rw [this]
    rfl
  obtain ⟨m, rfl⟩ : ∃ m, n = m + 1 := ⟨n - 1, by omega⟩
  rw [h.1, nI_pred, Nat.add_sub_cancel]
  obtain ⟨y, hy, hy1, hy2⟩ := fo_lp_dec (b := r_byLot_L10) (fun p s => p ≤ m ∧ s.2.1 = nI p ∧ F11 s.2.2 τ ∧ ∃ g, Rp (m + 1) g s.2.2 ∧ shf p s.1 g = shf m x f) (fun y => Rp (m + 1) (shf m x f) y.2.2 ∧ F11 y.2.2 τ) (by
    rintro p ⟨a, b, z⟩ ⟨h1, h2, h3, g, h4, h5⟩
    simp only at h2 h3 h4 h5
    subst h2
    unfold r_byLot_L10
    cases p with
    | zero =>
      right
      have : nI 0 ≤ (0 : Int32) := by rw [nI_0]; decide
      simp only [if_pos this]
      rw [shf] at h5
      exact ⟨_, rfl, by rw [← h5]; exact h4, h3⟩
    | succ p =>
      left
      have c0 : ¬ (nI (p + 1) ≤ (0 : Int32)) := by
        rw [← nI_0]
        exact f_nge (by omega) (by omega)
      have ed : (nI (p + 1)).toInt64 + (1 : Int64) = (nI (p + 1 + 1)).toInt64 := by
        rw [nI_l (by omega), nI_l (by omega)]
        exact lN_add (p + 1) 1
      have c1 : ¬ ((nI (p + 1 + 1)).toInt64 = 0) := by
        rw [nI_l (by omega)]
        show ¬ (lN (p + 1 + 1) = lN 0)
        rw [pk_lEQ (by omega) (by omega)]
        omega
      have hm : lotN a % (p + 1 + 1) < p + 2 := Nat.mod_lt (lotN a) (show 0 < p + 2 by omega)
      have eq := lot_q (p := p + 1) (by omega) a
      unfold lotU lotX at eq
      simp only [if_neg c0, ed, if_pos c1, eq, pk_m1, if_pos (f_vi (c := p + 1) (N := 16) (by omega) (by omega)), if_pos (f_vi (c := lotN a % (p + 1 + 1)) (N := 16) (by omega) (by omega)), f_cl (show p + 1 < 1000000 by omega), f_cl (show lotN a % (p + 1 + 1) < 1000000 by omega)]
      refine ⟨_, p, rfl, by omega, by omega, rfl, F11_t (F11_p _ _ _) (F11_t (F11_p _ _ _) h3), swR g (p + 1) (lotN a % (p + 1 + 1)), ⟨?_, fun k hk => ?_⟩, ?_⟩
      · rw [e_pI, if_neg (by omega), e_pI, if_neg (by omega)]
        exact h4.1
      · rw [e_pI, e_pI]
        unfold swR
        by_cases k1 : k = lotN a % (p + 1 + 1)
        · rw [if_pos ⟨rfl, rfl, k1⟩, if_pos k1]
          exact h4.2 _ (by omega)
        · rw [if_neg (fun q => k1 q.2.2), if_neg k1]
          by_cases k2 : k = p + 1
          · rw [if_pos ⟨rfl, rfl, k2⟩, if_pos k2]
            exact h4.2 _ (by omega)
          · rw [if_neg (fun q => k2 q.2.2), if_neg k2]
            exact h4.2 _ hk
      · rw [← h5, shf]
        rfl) fo_FU m (x, nI m, τ) ⟨Nat.le_refl m, rfl, F11_r τ, f, h, rfl⟩ (fo_FU_gt (by omega))
  rw [hy]
  exact ⟨_, rfl, hy1, hy2⟩
