theorem f_btn {i : Nat} (hi : i < 32) (m : Nat) : bt (nI m) i = m.testBit i := by
  unfold bt
  show (BitVec.ofNat 32 m).getLsbD i = _
  rw [BitVec.getLsbD_ofNat]
  simp [hi]
theorem f_and (a b : Nat) : nI a &&& nI b = nI (a &&& b) := by
  refine bt_ext (fun i hi => ?_)
  have e5 : ∀ (x y : Int32) j, bt (x &&& y) j = (bt x j && bt y j) := by
    intro x y j
    unfold bt
    rw [Int32.toBitVec_and, BitVec.getLsbD_and]
  rw [e5, f_btn hi, f_btn hi, f_btn hi, Nat.testBit_and]
def bcA (x : Int32) : Int32 := x - (((x.toUInt32 >>> ((1 : Int32).toUInt32 &&& Int32.toUInt32 31)).toInt32) &&& (1431655765 : Int32))
def bcB (x : Int32) : Int32 := (x &&& (858993459 : Int32)) + (((x.toUInt32 >>> ((2 : Int32).toUInt32 &&& Int32.toUInt32 31)).toInt32) &&& (858993459 : Int32))
def bcC (x : Int32) : Int32 := (x + ((x.toUInt32 >>> ((4 : Int32).toUInt32 &&& Int32.toUInt32 31)).toInt32)) &&& (252645135 : Int32)
def bcD (x : Int32) : Int32 := x + ((x.toUInt32 >>> ((8 : Int32).toUInt32 &&& Int32.toUInt32 31)).toInt32)
def bcE (x : Int32) : Int32 := x + ((x.toUInt32 >>> ((16 : Int32).toUInt32 &&& Int32.toUInt32 31)).toInt32)
theorem q_bc (σ : fo_S) (x : Int32) : q_Integer_bitCount σ x = some (bcE (bcD (bcC (bcB (bcA x)))) &&& (63 : Int32)) := rfl
def nA (m : Nat) : Nat := m - (m / 2 &&& 1431655765)
def nB (m : Nat) : Nat := (m &&& 858993459) + (m / 4 &&& 858993459)
def nC (m : Nat) : Nat := (m + m / 16) &&& 252645135
def nD (m : Nat) : Nat := m + m / 256
def nE (m : Nat) : Nat := m + m / 65536
theorem nA_e {m : Nat} (h : m < 65536) : bcA (nI m) = nI (nA m) ∧ nA m < 65536 := by
  have e : (m / 2 &&& 1431655765) ≤ m / 2 := Nat.and_le_left
  constructor
  · unfold bcA nA
    rw [pk_ushrN (by omega) 1 1 (by decide)]
    have : (1431655765 : Int32) = nI 1431655765 := by decide
    rw [this, f_and, show m / 2 ^ 1 = m / 2 by omega, pk_sub (by omega)]
  · unfold nA
    omega
theorem nB_e {m : Nat} (h : m < 65536) : bcB (nI m) = nI (nB m) ∧ nB m < 131072 := by
  have e : (m / 4 &&& 858993459) ≤ m / 4 := Nat.and_le_left
  have e2 : (m &&& 858993459) ≤ m := Nat.and_le_left
  constructor
  · unfold bcB nB
    rw [pk_ushrN (by omega) 2 2 (by decide)]
    have : (858993459 : Int32) = nI 858993459 := by decide
    rw [this, f_and, f_and, nI_add]
  · unfold nB
    omega
theorem nC_e {m : Nat} (h : m < 131072) : bcC (nI m) = nI (nC m) ∧ nC m < 262144 := by
  have e2 : ((m + m / 16) &&& 252645135) ≤ m + m / 16 := Nat.and_le_left
  constructor
  · unfold bcC nC
    rw [pk_ushrN (by omega) 4 4 (by decide)]
    have : (252645135 : Int32) = nI 252645135 := by decide
    rw [this, nI_add, f_and]
  · unfold nC
    omega
theorem nD_e {m : Nat} (h : m < 262144) : bcD (nI m) = nI (nD m) ∧ nD m < 524288 := by
  constructor
  · unfold bcD nD
    rw [pk_ushrN (by omega) 8 8 (by decide), nI_add]
  · unfold nD
    omega
theorem nE_e {m : Nat} (h : m < 524288) : bcE (nI m) = nI (nE m) := by
  unfold bcE nE
  rw [pk_ushrN (by omega) 16 16 (by decide), nI_add]
theorem f_and8 {x y u v : Nat} (hy : y < 256) (hv : v < 256) : (256 * x + y) &&& (256 * u + v) = 256 * (x &&& u) + (y &&& v) := by
  refine Nat.eq_of_testBit_eq (fun j => ?_)
  have hyv : (y &&& v) < 2 ^ 8 := Nat.and_lt_two_pow _ hv
  rw [Nat.testBit_and]
  have e1 := Nat.testBit_two_pow_mul_add x (i := 8) hy j
  have e2 := Nat.testBit_two_pow_mul_add u (i := 8) hv j
  have e3 := Nat.testBit_two_pow_mul_add (x &&& u) (i := 8) hyv j
  rw [show (2 : Nat) ^ 8 = 256 by decide] at e1 e2 e3
  rw [e1, e2, e3]
  by_cases hj : j < 8
  · simp only [if_pos hj, Nat.testBit_and]
  · simp only [if_neg hj, Nat.testBit_and]
theorem nA_8 {a b : Nat} (ha : a < 256) (hb : b < 256) : nA (256 * a + b) = 256 * nA a + nA b := by
  unfold nA
  have e1 : (256 * a + b) / 2 = 256 * (a / 2) + (128 * (a % 2) + b / 2) := by omega
  have e2 : (1431655765 : Nat) = 256 * 5592405 + 85 := by decide
  have e3 : ((256 * a + b) / 2 &&& 1431655765) = 256 * (a / 2 &&& 5592405) + ((128 * (a % 2) + b / 2) &&& 85) := by
    rw [e1]
    conv => lhs; rw [e2]
    exact f_and8 (by omega) (by omega)
  have d1 : ∀ c, c < 2 → ∀ b, b < 256 → ((128 * c + b / 2) &&& 85) = (b / 2 &&& 1431655765) := by decide +kernel
  have d2 : ∀ a, a < 256 → (a / 2 &&& 5592405) = (a / 2 &&& 1431655765) := by decide +kernel
  rw [e3, d1 (a % 2) (by omega) b hb, d2 a ha]
  have l1 : (a / 2 &&& 1431655765) ≤ a / 2 := Nat.and_le_left
  have l2 : (b / 2 &&& 1431655765) ≤ b / 2 := Nat.and_le_left
  omega
theorem nB_8 {a b : Nat} (ha : a < 256) (hb : b < 256) : nB (256 * a + b) = 256 * nB a + nB b := by
  unfold nB
  have e1 : (256 * a + b) / 4 = 256 * (a / 4) + (64 * (a % 4) + b / 4) := by omega
  have e2 : (858993459 : Nat) = 256 * 3355443 + 51 := by decide
  have e3 : ((256 * a + b) / 4 &&& 858993459) = 256 * (a / 4 &&& 3355443) + ((64 * (a % 4) + b / 4) &&& 51) := by
    rw [e1]
    conv => lhs; rw [e2]
    exact f_and8 (by omega) (by omega)
  have e4 : ((256 * a + b) &&& 858993459) = 256 * (a &&& 3355443) + (b &&& 51) := by
    conv => lhs; rw [e2]
    exact f_and8 (by omega) (by omega)
  have d1 : ∀ c, c < 4 → ∀ b, b < 256 → ((64 * c + b / 4) &&& 51) = (b / 4 &&& 858993459) := by decide +kernel
  have d2 : ∀ a, a < 256 → (a / 4 &&& 3355443) = (a / 4 &&& 858993459) := by decide +kernel
  have d3 : ∀ a, a < 256 → (a &&& 3355443) = (a &&& 858993459) := by decide +kernel
  have d4 : ∀ a, a < 256 → (a &&& 51) = (a &&& 858993459) := by decide +kernel
  rw [e3, e4, d1 (a % 4) (by omega) b hb, d2 a ha, d3 a ha, d4 b hb]
  omega
theorem n_pc8 : ∀ b, b < 256 → nA b < 256 ∧ nB (nA b) / 16 < 5 ∧ nB (nA b) % 16 < 5 ∧ nB (nA b) / 16 + nB (nA b) % 16 = fo_n (fun i => b.testBit i) 8 := by decide +kernel
theorem n_pc4 : ∀ a, a < 5 → ∀ b, b < 5 → ∀ c, c < 5 → ∀ d, d < 5 → (nE (nD (nC (256 * (16 * a + b) + (16 * c + d)))) &&& 63) = a + b + (c + d) := by decide +kernel
theorem fo_n_ad (p : Nat → Bool) (n : Nat) : ∀ d, fo_n p (n + d) = fo_n p n + fo_n (fun i => p (n + i)) d := by
  intro d
  induction d with
  | zero => rfl
  | succ d ih =>
    show fo_n p ((n + d) + 1) = _
    rw [fo_n, ih, fo_n]
    omega
theorem n_pc : ∀ a, a < 256 → ∀ b, b < 256 → (nE (nD (nC (nB (nA (256 * a + b))))) &&& 63) = fo_n (fun i => (256 * a + b).testBit i) 16 := by
  intro a ha b hb
  obtain ⟨x1, x2, x3, x4⟩ := n_pc8 a ha
  obtain ⟨y1, y2, y3, y4⟩ := n_pc8 b hb
  rw [nA_8 ha hb, nB_8 x1 y1]
  have := n_pc4 _ x2 _ x3 _ y2 _ y3
  rw [show 16 * (nB (nA a) / 16) + nB (nA a) % 16 = nB (nA a) by omega, show 16 * (nB (nA b) / 16) + nB (nA b) % 16 = nB (nA b) by omega] at this
  rw [this, x4, y4]
  have e := fun j => Nat.testBit_two_pow_mul_add a (i := 8) hb j
  rw [show (2 : Nat) ^ 8 = 256 by decide] at e
  have z := fo_n_ad (fun i => (256 * a + b).testBit i) 8 8
  rw [show (8 + 8 : Nat) = 16 by decide] at z
  rw [z, Nat.add_comm]
  congr 1
  · refine fo_n_cg (fun i hi => ?_)
    rw [e i, if_pos hi]
  · refine fo_n_cg (fun i hi => ?_)
    rw [e (8 + i), if_neg (by omega)]
    congr 1
    omega
theorem q_bcN (σ : fo_S) {m : Nat} (h : m < 65536) : q_Integer_bitCount σ (nI m) = some (nI (fo_n (fun i => m.testBit i) 16)) := by
  rw [q_bc]
  obtain ⟨a1, a2⟩ := nA_e h
  rw [a1]
  obtain ⟨b1, b2⟩ := nB_e a2
  rw [b1]
  obtain ⟨c1, c2⟩ := nC_e b2
  rw [c1]
  obtain ⟨d1, d2⟩ := nD_e c2
  rw [d1, nE_e d2]
  have : (63 : Int32) = nI 63 := by decide
  rw [this, f_and]
  have e := n_pc (m / 256) (by omega) (m % 256) (by omega)
  rw [show 256 * (m / 256) + m % 256 = m by omega] at e
  rw [e]
theorem fo_n_up {p : Nat → Bool} {n : Nat} : ∀ d, (∀ i, n ≤ i → i < n + d → p i = false) → fo_n p (n + d) = fo_n p n := by
  intro d
  induction d with
  | zero => intro _; rfl
  | succ d ih =>
    intro h
    show fo_n p ((n + d) + 1) = _
    rw [fo_n, ih (fun i h1 h2 => h i h1 (by omega)), h (n + d) (by omega) (by omega)]
    simp
theorem q_bcS {nc : Nat} {O : Nat → Bool} {w : Int32} (σ : fo_S) (hnc : nc ≤ 16) (h : Bs nc O w) : q_Integer_bitCount σ w = some (nI (fo_n O nc)) := by
  have hw : w = nI w.toBitVec.toNat := by
    refine bt_ext (fun i hi => ?_)
    rw [f_btn hi]
    rfl
  have hb : ∀ i, (w.toBitVec.toNat).testBit i = (decide (i < nc) && O i) := fun i => h i
  have hm : w.toBitVec.toNat < 65536 := by
    refine Nat.lt_pow_two_of_testBit (n := 16) _ (fun i hi => ?_)
    rw [hb i, decide_eq_false (by omega)]
    rfl
  rw [hw, q_bcN σ hm]
  have e1 : fo_n (fun i => (w.toBitVec.toNat).testBit i) 16 = fo_n (fun i => decide (i < nc) && O i) 16 := fo_n_cg (fun i _ => hb i)
  have e2 : fo_n (fun i => decide (i < nc) && O i) (nc + (16 - nc)) = fo_n (fun i => decide (i < nc) && O i) nc := fo_n_up _ (fun i h1 _ => by
    rw [decide_eq_false (by omega)]
    rfl)
  have e3 : fo_n (fun i => decide (i < nc) && O i) nc = fo_n O nc := fo_n_cg (fun i hi => by simp [hi])
  rw [e1, ← e3, ← e2, show nc + (16 - nc) = 16 by omega]
theorem s_count {i : Nat} {σ τ : fo_S} (_ : i ≤ 3072) (h : Rl i σ τ) {a1 : Int32} : ∃ r : Int32, q_FairOrder_count σ a1 = some r ∧ r_count τ a1 = some r := by
  obtain ⟨na, nc, ph, ⟨n1, n2, n3, n4, n5, n6, n7, n8, n9, n10, n11⟩, hm, hc, hr⟩ := h
  unfold q_FairOrder_count r_count
  by_cases c0 : a1 = 0
  · simp only [if_pos c0, n4, n5]
    exact ⟨_, rfl, rfl⟩
  by_cases c1 : a1 = 1
  · simp only [if_neg c0, if_pos c1, n6, n7]
    exact ⟨_, rfl, rfl⟩
  by_cases c2 : a1 = 2
  · simp only [if_neg c0, if_neg c1, if_pos c2, n8, n9]
    exact ⟨_, rfl, rfl⟩
  by_cases c4 : a1 = 4
  · subst c4
    simp only [n10]
    exact ⟨_, rfl, rfl⟩
  by_cases c3 : a1 = 3
  · simp only [if_neg c0, if_neg c1, if_neg c2, if_pos c3]
    obtain ⟨w, h1, h2⟩ := q_os (O := fO σ) n2 n6 (fun c hcc => (Rc_O (hc c hcc)).1)
    rw [h1]
    simp only [Option.bind_some, q_bcS σ n2 h2]
    obtain ⟨y, hy, hy1⟩ := fo_lp_for (b := r_count_L57 τ) nc (fun n s => s.2 = nI n ∧ s.1 = nI (fo_n (fO σ) n)) (fun y => y.1 = nI (fo_n (fO σ) nc)) (by
      rintro n ⟨w, x⟩ hn ⟨h1, h2⟩
      simp only at h1 h2
      subst h1
      subst h2
      left
      unfold r_count_L57
      have vn := f_vi (c := n) (N := 16) (by omega) (by omega)
      simp only [n7, if_neg (f_nge hn (show nc < 1000000 by omega)), if_pos vn, f_cl (show n < 1000000 by omega), (Rc_O (hc n hn)).2, b1_0, nI_1]
      cases hOn : fO σ n with
      | false =>
        simp only [if_true]
        refine ⟨_, rfl, rfl, ?_⟩
        simp [fo_n, hOn]
      | true =>
        simp only [Bool.true_eq_false, if_false]
        refine ⟨_, rfl, rfl, ?_⟩
        simp [fo_n, hOn]) (by
      rintro ⟨w, x⟩ ⟨h1, h2⟩
      simp only at h1 h2
      subst h1
      unfold r_count_L57
      simp only [n7, if_pos (f_ge (Nat.le_refl nc) (show nc < 1000000 by omega))]
      exact ⟨_, rfl, h2⟩) (s0 := ((0 : Int32), (0 : Int32))) ⟨rfl, rfl⟩ (by omega)
    rw [hy]
    simp only [Option.bind_some, hy1]
    exact ⟨_, rfl, rfl⟩
  by_cases c5 : a1 = 5
  · simp only [if_neg c0, if_neg c1, if_neg c2, if_neg c3, if_neg c4, if_pos c5]
    rcases hr.1 with ⟨h1, h2, h3, h4, h5⟩ | ⟨h1, h2, ⟨nr, f, h3, h4, h5, h6⟩, -⟩
    · have : ¬ ((0 : Int32) ≤ -1) := by decide
      simp only [h4, h5, if_neg this]
      exact ⟨_, rfl, rfl⟩
    · have : (0 : Int32) ≤ nI nr := f_ge (Nat.zero_le nr) (by omega)
      simp only [h4, h5, if_pos this]
      exact ⟨_, rfl, rfl⟩
  · simp only [if_neg c0, if_neg c1, if_neg c2, if_neg c3, if_neg c4, if_neg c5]
    exact ⟨_, rfl, rfl⟩
