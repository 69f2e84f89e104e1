-- what is done at the price
abbrev bT : Type := (Nat × Nat) × ((Nat → Nat) × (Nat → Nat)) × (Nat → Nat)
def bA (T : Nat → Bool) (sd am f : Nat → Nat) (s : bT) (k : Nat) : Nat :=
  if T k then (if (if sd (f k) = 0 then s.1.1 else s.1.2) < am (f k) then (if sd (f k) = 0 then s.1.1 else s.1.2) else am (f k)) else 0
def bM (s : bT) (o c a p : Nat) (sell : Bool) : bT :=
  if sell then ((s.1.1, s.1.2 - a), (uN s.2.1.1 o (s.2.1.1 o + a * p), uN s.2.1.2 o (s.2.1.2 o - a)), uN s.2.2 c a)
  else ((s.1.1 - a, s.1.2), (uN s.2.1.1 o (s.2.1.1 o - a * p), uN s.2.1.2 o (s.2.1.2 o + a)), uN s.2.2 c a)
def bS (T : Nat → Bool) (own sd am f : Nat → Nat) (mg : (Nat → Nat) × (Nat → Nat)) (v p : Nat) : Nat → bT
  | 0 => ((v, v), mg, fun _ => 0)
  | k + 1 => bM (bS T own sd am f mg v p k) (own (f k)) (f k) (bA T sd am f (bS T own sd am f mg v p k) k) p (decide (¬ sd (f k) = 0))
theorem bA_le {T : Nat → Bool} {sd am f : Nat → Nat} {s : bT} {k : Nat} : bA T sd am f s k ≤ am (f k) ∧ bA T sd am f s k ≤ (if sd (f k) = 0 then s.1.1 else s.1.2) := by
  unfold bA
  generalize (if sd (f k) = 0 then s.1.1 else s.1.2) = m
  split
  · split
    · omega
    · omega
  · omega
theorem bA_0 {T : Nat → Bool} {sd am f : Nat → Nat} {s : bT} {k : Nat} (h : T k = false) : bA T sd am f s k = 0 := by
  unfold bA
  rw [h]
  rfl
theorem uN_e (f : Nat → Nat) (a v : Nat) : uN f a v a = v := by
  unfold uN
  rw [if_pos rfl]
theorem uN_n {f : Nat → Nat} {a v k : Nat} (h : ¬ k = a) : uN f a v k = f k := by
  unfold uN
  rw [if_neg h]
theorem uN_s (f : Nat → Nat) (a : Nat) {v : Nat} (h : v = f a) : uN f a v = f := by
  funext k
  unfold uN
  by_cases q : k = a
  · rw [if_pos q, q, h]
  · rw [if_neg q]
theorem bM_0 (s : bT) (o c p : Nat) (sell : Bool) (h : s.2.2 c = 0) : bM s o c 0 p sell = s := by
  unfold bM
  cases sell with
  | true =>
    rw [if_pos rfl, uN_s s.2.1.1 o (by omega), uN_s s.2.1.2 o (by omega), uN_s s.2.2 c h.symm]
    rfl
  | false =>
    rw [if_neg (by decide), uN_s s.2.1.1 o (by omega), uN_s s.2.1.2 o (by omega), uN_s s.2.2 c h.symm]
    rfl
theorem bM_d (s : bT) (o c a p : Nat) (sell : Bool) : (bM s o c a p sell).2.2 = uN s.2.2 c a := by
  unfold bM
  cases sell <;> rfl
theorem bS_d0 {T : Nat → Bool} {own sd am f : Nat → Nat} {mg : (Nat → Nat) × (Nat → Nat)} {v p c : Nat} : ∀ n, (∀ j, j < n → ¬ f j = c) → (bS T own sd am f mg v p n).2.2 c = 0 := by
  intro n
  induction n with
  | zero => intro _; rfl
  | succ n ih =>
    intro h
    rw [bS, bM_d, uN_n (fun q => h n (by omega) q.symm)]
    exact ih (fun j hj => h j (by omega))
theorem bS_v {T : Nat → Bool} {own sd am f : Nat → Nat} {mg : (Nat → Nat) × (Nat → Nat)} {v p : Nat} : ∀ n, (bS T own sd am f mg v p n).1.1 ≤ v ∧ (bS T own sd am f mg v p n).1.2 ≤ v := by
  intro n
  induction n with
  | zero => exact ⟨Nat.le_refl _, Nat.le_refl _⟩
  | succ n ih =>
    rw [bS]
    unfold bM
    split
    · exact ⟨ih.1, Nat.le_trans (Nat.sub_le _ _) ih.2⟩
    · exact ⟨Nat.le_trans (Nat.sub_le _ _) ih.1, ih.2⟩
/-- nobody gives more than he has -/
theorem bS_ok {own sd pr am f : Nat → Nat} {mg : (Nat → Nat) × (Nat → Nat)} {v p : Nat} : ∀ n, (∀ a, mg.1 a ≤ (bS (aT own sd pr am mg p f) own sd am f mg v p n).2.1.1 a + (aG own sd pr am mg p f n).1.1 a * p) ∧ (∀ a, mg.2 a ≤ (bS (aT own sd pr am mg p f) own sd am f mg v p n).2.1.2 a + (aG own sd pr am mg p f n).1.2 a) := by
  intro n
  induction n with
  | zero => exact ⟨fun a => Nat.le_add_right _ _, fun a => Nat.le_add_right _ _⟩
  | succ n ih =>
    obtain ⟨i1, i2⟩ := ih
    rw [bS, aG]
    obtain ⟨l1, -⟩ := bA_le (T := aT own sd pr am mg p f) (sd := sd) (am := am) (f := f) (s := bS (aT own sd pr am mg p f) own sd am f mg v p n) (k := n)
    have h0 := bA_0 (T := aT own sd pr am mg p f) (sd := sd) (am := am) (f := f) (s := bS (aT own sd pr am mg p f) own sd am f mg v p n) (k := n)
    generalize bA (aT own sd pr am mg p f) sd am f (bS (aT own sd pr am mg p f) own sd am f mg v p n) n = A at l1 h0 ⊢
    generalize bS (aT own sd pr am mg p f) own sd am f mg v p n = S at i1 i2 ⊢
    have hT : aT own sd pr am mg p f n = aJ own sd pr am mg p (aG own sd pr am mg p f n) (f n) := rfl
    rw [hT] at h0
    unfold aN
    generalize aG own sd pr am mg p f n = G at i1 i2 h0 ⊢
    have m1 : A * p ≤ am (f n) * p := Nat.mul_le_mul_right p l1
    by_cases hs : sd (f n) = 0
    · unfold bM
      rw [if_neg (show ¬ decide (¬ sd (f n) = 0) = true by simp [hs])]
      cases hj : aJ own sd pr am mg p G (f n) with
      | true =>
        rw [if_pos rfl, if_pos hs]
        refine ⟨fun a => ?_, fun a => ?_⟩
        · show mg.1 a ≤ uN S.2.1.1 (own (f n)) (S.2.1.1 (own (f n)) - A * p) a + uN G.1.1 (own (f n)) (G.1.1 (own (f n)) + am (f n)) a * p
          have := i1 a
          by_cases q : a = own (f n)
          · rw [q, uN_e, uN_e, Nat.add_mul]
            rw [q] at this
            omega
          · rw [uN_n q, uN_n q]
            exact this
        · show mg.2 a ≤ uN S.2.1.2 (own (f n)) (S.2.1.2 (own (f n)) + A) a + G.1.2 a
          have := i2 a
          by_cases q : a = own (f n)
          · rw [q, uN_e]
            rw [q] at this
            omega
          · rw [uN_n q]
            exact this
      | false =>
        have hA := h0 hj
        subst hA
        rw [if_neg (by decide)]
        refine ⟨fun a => ?_, fun a => ?_⟩
        · show mg.1 a ≤ uN S.2.1.1 (own (f n)) (S.2.1.1 (own (f n)) - 0 * p) a + G.1.1 a * p
          rw [uN_s _ _ (by omega)]
          exact i1 a
        · show mg.2 a ≤ uN S.2.1.2 (own (f n)) (S.2.1.2 (own (f n)) + 0) a + G.1.2 a
          rw [uN_s _ _ (by omega)]
          exact i2 a
    · unfold bM
      rw [if_pos (show decide (¬ sd (f n) = 0) = true by simp [hs])]
      cases hj : aJ own sd pr am mg p G (f n) with
      | true =>
        rw [if_pos rfl, if_neg hs]
        refine ⟨fun a => ?_, fun a => ?_⟩
        · show mg.1 a ≤ uN S.2.1.1 (own (f n)) (S.2.1.1 (own (f n)) + A * p) a + G.1.1 a * p
          have := i1 a
          by_cases q : a = own (f n)
          · rw [q, uN_e]
            rw [q] at this
            omega
          · rw [uN_n q]
            exact this
        · show mg.2 a ≤ uN S.2.1.2 (own (f n)) (S.2.1.2 (own (f n)) - A) a + uN G.1.2 (own (f n)) (G.1.2 (own (f n)) + am (f n)) a
          have := i2 a
          by_cases q : a = own (f n)
          · rw [q, uN_e, uN_e]
            rw [q] at this
            omega
          · rw [uN_n q, uN_n q]
            exact this
      | false =>
        have hA := h0 hj
        subst hA
        rw [if_neg (by decide)]
        refine ⟨fun a => ?_, fun a => ?_⟩
        · show mg.1 a ≤ uN S.2.1.1 (own (f n)) (S.2.1.1 (own (f n)) + 0 * p) a + G.1.1 a * p
          rw [uN_s _ _ (by omega)]
          exact i1 a
        · show mg.2 a ≤ uN S.2.1.2 (own (f n)) (S.2.1.2 (own (f n)) - 0) a + G.1.2 a
          rw [uN_s _ _ (by omega)]
          exact i2 a
/-- so each has what he gives -/
theorem bS_has {own sd pr am f : Nat → Nat} {mg : (Nat → Nat) × (Nat → Nat)} {v p n : Nat} : (sd (f n) = 0 → bA (aT own sd pr am mg p f) sd am f (bS (aT own sd pr am mg p f) own sd am f mg v p n) n * p ≤ (bS (aT own sd pr am mg p f) own sd am f mg v p n).2.1.1 (own (f n))) ∧ (¬ sd (f n) = 0 → bA (aT own sd pr am mg p f) sd am f (bS (aT own sd pr am mg p f) own sd am f mg v p n) n ≤ (bS (aT own sd pr am mg p f) own sd am f mg v p n).2.1.2 (own (f n))) := by
  obtain ⟨i1, i2⟩ := bS_ok (own := own) (sd := sd) (pr := pr) (am := am) (f := f) (mg := mg) (v := v) (p := p) n
  have i1 := i1 (own (f n))
  have i2 := i2 (own (f n))
  obtain ⟨l1, -⟩ := bA_le (T := aT own sd pr am mg p f) (sd := sd) (am := am) (f := f) (s := bS (aT own sd pr am mg p f) own sd am f mg v p n) (k := n)
  have h0 := bA_0 (T := aT own sd pr am mg p f) (sd := sd) (am := am) (f := f) (s := bS (aT own sd pr am mg p f) own sd am f mg v p n) (k := n)
  generalize bA (aT own sd pr am mg p f) sd am f (bS (aT own sd pr am mg p f) own sd am f mg v p n) n = A at l1 h0 ⊢
  generalize bS (aT own sd pr am mg p f) own sd am f mg v p n = S at i1 i2 ⊢
  have hT : aT own sd pr am mg p f n = aJ own sd pr am mg p (aG own sd pr am mg p f n) (f n) := rfl
  rw [hT] at h0
  generalize aG own sd pr am mg p f n = G at i1 i2 h0 ⊢
  have m1 : A * p ≤ am (f n) * p := Nat.mul_le_mul_right p l1
  constructor
  · intro hs
    cases hj : aJ own sd pr am mg p G (f n) with
    | false =>
      rw [h0 hj, Nat.zero_mul]
      exact Nat.zero_le _
    | true =>
      unfold aJ at hj
      rw [if_pos hs] at hj
      have := (of_decide_eq_true hj).2
      rw [Nat.add_mul] at this
      omega
  · intro hs
    cases hj : aJ own sd pr am mg p G (f n) with
    | false =>
      rw [h0 hj]
      exact Nat.zero_le _
    | true =>
      unfold aJ at hj
      rw [if_neg hs] at hj
      have := (of_decide_eq_true hj).2
      omega
theorem bM_B {na o c A p B Bg : Nat} {S : bT} {sell : Bool} (hna : na ≤ 8) (hp : p ≤ 1000) (ho : o < na) (hA : A ≤ 1000) (hb : tB na B Bg S.2.1) : tB na (B + 1000000) (Bg + 1000) (bM S o c A p sell).2.1 := by
  obtain ⟨b1, b2, b3⟩ := hb
  have m1 : A * p ≤ 1000000 := Nat.mul_le_mul hA hp
  have ho8 : ¬ 8 = o := by omega
  unfold bM
  generalize A * p = X at m1 ⊢
  cases sell with
  | true =>
    rw [if_pos rfl]
    refine ⟨?_, ?_, fun a ha => ?_⟩
    · show uN S.2.1.1 o (S.2.1.1 o + X) 8 ≤ B + 1000000
      rw [uN_n ho8]
      exact Nat.le_trans b1 (Nat.le_add_right _ _)
    · show uN S.2.1.2 o (S.2.1.2 o - A) 8 ≤ Bg + 1000
      rw [uN_n ho8]
      exact Nat.le_trans b2 (Nat.le_add_right _ _)
    · show uN S.2.1.1 o (S.2.1.1 o + X) a + uN S.2.1.1 o (S.2.1.1 o + X) 8 ≤ B + 1000000 ∧ uN S.2.1.2 o (S.2.1.2 o - A) a ≤ Bg + 1000
      obtain ⟨c1, c2⟩ := b3 a ha
      rw [uN_n ho8]
      by_cases q : a = o
      · subst q
        rw [uN_e, uN_e]
        generalize S.2.1.1 a = x at c1 ⊢
        generalize S.2.1.1 8 = y at c1 ⊢
        generalize S.2.1.2 a = z at c2 ⊢
        omega
      · rw [uN_n q, uN_n q]
        exact ⟨Nat.le_trans c1 (Nat.le_add_right _ _), Nat.le_trans c2 (Nat.le_add_right _ _)⟩
  | false =>
    rw [if_neg (by decide)]
    refine ⟨?_, ?_, fun a ha => ?_⟩
    · show uN S.2.1.1 o (S.2.1.1 o - X) 8 ≤ B + 1000000
      rw [uN_n ho8]
      exact Nat.le_trans b1 (Nat.le_add_right _ _)
    · show uN S.2.1.2 o (S.2.1.2 o + A) 8 ≤ Bg + 1000
      rw [uN_n ho8]
      exact Nat.le_trans b2 (Nat.le_add_right _ _)
    · show uN S.2.1.1 o (S.2.1.1 o - X) a + uN S.2.1.1 o (S.2.1.1 o - X) 8 ≤ B + 1000000 ∧ uN S.2.1.2 o (S.2.1.2 o + A) a ≤ Bg + 1000
      obtain ⟨c1, c2⟩ := b3 a ha
      rw [uN_n ho8]
      by_cases q : a = o
      · subst q
        rw [uN_e, uN_e]
        generalize S.2.1.1 a = x at c1 ⊢
        generalize S.2.1.1 8 = y at c1 ⊢
        generalize S.2.1.2 a = z at c2 ⊢
        omega
      · rw [uN_n q, uN_n q]
        exact ⟨Nat.le_trans c1 (Nat.le_add_right _ _), Nat.le_trans c2 (Nat.le_add_right _ _)⟩
theorem bS_B {T : Nat → Bool} {own sd pr am f : Nat → Nat} {mg : (Nat → Nat) × (Nat → Nat)} {na nr v p B Bg : Nat} (hna : na ≤ 8) (hp : p ≤ 1000) (hN : ∀ k, k < nr → CdN na own sd pr am (f k)) (hb : tB na B Bg mg) : ∀ n, n ≤ nr → tB na (B + n * 1000000) (Bg + n * 1000) (bS T own sd am f mg v p n).2.1 := by
  intro n
  induction n with
  | zero =>
    intro _
    rw [Nat.zero_mul]
    exact hb
  | succ n ih =>
    intro hn
    obtain ⟨o1, o2, o3, o4, o5⟩ := hN n (by omega)
    obtain ⟨l1, -⟩ := bA_le (T := T) (sd := sd) (am := am) (f := f) (s := bS T own sd am f mg v p n) (k := n)
    rw [bS, Nat.succ_mul, Nat.succ_mul, ← Nat.add_assoc, ← Nat.add_assoc]
    exact bM_B hna hp o1 (Nat.le_trans l1 o5) (ih (by omega))
