/-- a loop that counts -/
theorem fo_lp_for {σ ε : Type} {b : σ → Option (σ ⊕ ε)} (N : Nat) (I : Nat → σ → Prop) (Q : ε → Prop) (hs : ∀ n s, n < N → I n s → (∃ s', b s = some (.inl s') ∧ I (n + 1) s') ∨ (∃ y, b s = some (.inr y) ∧ Q y)) (he : ∀ s, I N s → ∃ y, b s = some (.inr y) ∧ Q y) {s0 : σ} (h0 : I 0 s0) (hN : N < 100000) : ∃ y, fo_lp b fo_FU s0 = some y ∧ Q y := by
  have key : ∀ d n s f, n + d = N → I n s → d < f → ∃ y, fo_lp b f s = some y ∧ Q y := by
    intro d
    induction d with
    | zero =>
      intro n s f hn hI hf
      obtain ⟨f', rfl⟩ : ∃ f', f = f' + 1 := ⟨f - 1, by omega⟩
      have hnN : n = N := by omega
      subst hnN
      obtain ⟨y, h1, h2⟩ := he s hI
      exact ⟨y, by rw [fo_lp, h1], h2⟩
    | succ d ih =>
      intro n s f hn hI hf
      obtain ⟨f', rfl⟩ : ∃ f', f = f' + 1 := ⟨f - 1, by omega⟩
      rcases hs n s (by omega) hI with ⟨s', h1, h2⟩ | ⟨y, h1, h2⟩
      · obtain ⟨y, h3, h4⟩ := ih (n + 1) s' f' (by omega) h2 (by omega)
        exact ⟨y, by rw [fo_lp, h1]; exact h3, h4⟩
      · exact ⟨y, by rw [fo_lp, h1], h2⟩
  exact key N 0 s0 fo_FU (by omega) h0 hN
/-- a truth as an int -/
def b1 (b : Bool) : Int32 := if b = true then 1 else 0
theorem b1_t : b1 true = 1 := rfl
theorem b1_f : b1 false = 0 := rfl
theorem b1_0 (b : Bool) : (b1 b = 0) ↔ b = false := by
  cases b <;> decide
theorem b1_n (b : Bool) : vp_nar .boolean (b1 b) = b1 b := by
  cases b <;> decide
theorem b1_01 (b : Bool) : b1 b = 0 ∨ b1 b = 1 := by
  cases b <;> decide
-- sets as bits
def bt (w : Int32) (i : Nat) : Bool := w.toBitVec.getLsbD i
theorem bt_or (x y : Int32) (i : Nat) : bt (x ||| y) i = (bt x i || bt y i) := by
  unfold bt
  rw [Int32.toBitVec_or, BitVec.getLsbD_or]
theorem bt_an (x y : Int32) (i : Nat) : bt (x &&& (y ^^^ (-1 : Int32))) i = (bt x i && !bt y i) := by
  unfold bt
  rw [Int32.toBitVec_and, BitVec.getLsbD_and, Int32.toBitVec_xor, BitVec.getLsbD_xor]
  by_cases h : i < 32
  · have : ((-1 : Int32).toBitVec).getLsbD i = true := by
      have h' : (-1 : Int32).toBitVec = BitVec.allOnes 32 := by decide
      rw [h', BitVec.getLsbD_allOnes]
      exact decide_eq_true h
    rw [this, Bool.xor_true]
  · have : x.toBitVec.getLsbD i = false := BitVec.getLsbD_of_ge _ _ (by omega)
    rw [this, Bool.false_and, Bool.false_and]
theorem bt_0 (i : Nat) : bt 0 i = false := by
  unfold bt
  have : (0 : Int32).toBitVec = 0#32 := by decide
  rw [this, BitVec.getLsbD_zero]
theorem bt_sh {k : Nat} (hk : k < 16) (i : Nat) : bt ((1 : Int32) <<< (nI k &&& 31)) i = decide (i = k) := by
  by_cases h : i < 32
  · have : ∀ k, k < 16 → ∀ i, i < 32 → bt ((1 : Int32) <<< (nI k &&& 31)) i = decide (i = k) := by decide +kernel
    exact this k hk i h
  · unfold bt
    rw [BitVec.getLsbD_of_ge _ _ (by omega)]
    symm
    exact decide_eq_false (by omega)
theorem bt_ext {x y : Int32} (h : ∀ i, i < 32 → bt x i = bt y i) : x = y := by
  have : x.toBitVec = y.toBitVec := BitVec.eq_of_getLsbD_eq (fun i hi => h i hi)
  exact Int32.toBitVec_inj.mp this
theorem bt_has {k : Nat} (hk : k < 16) (s : Int32) : (((s.toUInt32 >>> ((nI k).toUInt32 &&& Int32.toUInt32 31)).toInt32) &&& (1 : Int32) = 0) ↔ bt s k = false := by
  have e1 : ∀ k, k < 16 → ((nI k).toUInt32 &&& Int32.toUInt32 31) = UInt32.ofNat k := by decide +kernel
  rw [e1 k hk]
  have e2 : ∀ j, bt ((s.toUInt32 >>> UInt32.ofNat k).toInt32) j = bt s (k + j) := by
    intro j
    unfold bt
    show (s.toUInt32 >>> UInt32.ofNat k).toBitVec.getLsbD j = _
    rw [UInt32.toBitVec_shiftRight]
    have e3 : ((UInt32.ofNat k).toBitVec % 32) = BitVec.ofNat 32 k := by
      have : ∀ k, k < 16 → ((UInt32.ofNat k).toBitVec % 32) = BitVec.ofNat 32 k := by decide +kernel
      exact this k hk
    rw [e3, BitVec.ushiftRight_eq', BitVec.getLsbD_ushiftRight, BitVec.toNat_ofNat, Nat.mod_eq_of_lt (by omega)]
    rfl
  have e4 : ∀ j, bt (1 : Int32) j = decide (j = 0) := by
    intro j
    have := bt_sh (k := 0) (by omega) j
    rwa [show ((1 : Int32) <<< (nI 0 &&& 31)) = 1 by decide] at this
  have e5 : ∀ (x : Int32) j, bt (x &&& 1) j = (bt x j && bt 1 j) := by
    intro x j
    unfold bt
    rw [Int32.toBitVec_and, BitVec.getLsbD_and]
  constructor
  · intro h
    have := e5 ((s.toUInt32 >>> UInt32.ofNat k).toInt32) 0
    rw [h, bt_0, e2, e4] at this
    simpa using this.symm
  · intro h
    refine bt_ext (fun i hi => ?_)
    rw [e5, e2, e4, bt_0]
    by_cases hi0 : i = 0
    · subst hi0
      simp [h]
    · simp [hi0]
/-- the set of those below nc that P holds of -/
def Bs (nc : Nat) (P : Nat → Bool) (w : Int32) : Prop := ∀ i, bt w i = (decide (i < nc) && P i)
theorem Bs_ad {n : Nat} {P : Nat → Bool} {w : Int32} (h : Bs n P w) (hn : n < 16) (hP : P n = true) : Bs (n + 1) P (w ||| ((1 : Int32) <<< (nI n &&& 31))) := by
  intro i
  rw [bt_or, h i, bt_sh hn]
  by_cases hi : i = n
  · subst hi
    simp [hP]
  · have : (i < n + 1) ↔ i < n := by omega
    simp [hi, this]
theorem Bs_no {n : Nat} {P : Nat → Bool} {w : Int32} (h : Bs n P w) (hP : P n = false) : Bs (n + 1) P w := by
  intro i
  rw [h i]
  by_cases hi : i = n
  · subst hi
    simp [hP]
  · have : (i < n + 1) ↔ i < n := by omega
    simp [this]
theorem Bs_0 (P : Nat → Bool) : Bs 0 P 0 := by
  intro i
  rw [bt_0]
  simp
theorem Bs_z {n : Nat} {P : Nat → Bool} {w : Int32} (h : Bs n P w) : (w = 0) ↔ ∀ i, i < n → P i = false := by
  constructor
  · intro e i hi
    have := h i
    rw [e, bt_0] at this
    simpa [hi] using this.symm
  · intro e
    refine bt_ext (fun i _ => ?_)
    rw [h i, bt_0]
    by_cases hi : i < n
    · simp [e i hi]
    · simp [hi]
theorem q_has {nc k : Nat} {P : Nat → Bool} {w : Int32} {σ : fo_S} (h : Bs nc P w) (hk : k < nc) (hn : nc ≤ 16) : q_Links_contains σ w (nI k) = some (b1 (P k)) := by
  unfold q_Links_contains
  have e := bt_has (k := k) (by omega) w
  rw [h k] at e
  simp only [hk, decide_true, Bool.true_and] at e
  cases hP : P k with
  | true =>
    rw [if_neg (by rw [e, hP]; decide)]
    rfl
  | false =>
    rw [if_pos (by rw [e, hP])]
    rfl
