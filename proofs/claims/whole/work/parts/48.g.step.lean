/-- one call on a market of numbers (place 8: the pool) -/
def tS (own sd pr am : Nat → Nat) (mg : (Nat → Nat) × (Nat → Nat)) (c : Nat) : Option Nat := tK (mg.1 8) (mg.2 8) (mg.1 (own c)) (mg.2 (own c)) (sd c) (pr c) (am c)
def tN (own sd pr am : Nat → Nat) (mg : (Nat → Nat) × (Nat → Nat)) (c : Nat) : (Nat → Nat) × (Nat → Nat) := match tS own sd pr am mg c with
  | none => mg
  | some v => if sd c = 0 then (fun a => if a = own c then mg.1 a - v else if a = 8 then mg.1 8 + v else mg.1 a, fun a => if a = own c then mg.2 a + am c else if a = 8 then mg.2 8 - am c else mg.2 a) else (fun a => if a = own c then mg.1 a + v else if a = 8 then mg.1 8 - v else mg.1 a, fun a => if a = own c then mg.2 a - am c else if a = 8 then mg.2 8 + am c else mg.2 a)
/-- bounds of a market -/
def tB (na B Bg : Nat) (mg : (Nat → Nat) × (Nat → Nat)) : Prop := mg.1 8 ≤ B ∧ mg.2 8 ≤ Bg ∧ ∀ a, a < na → mg.1 a + mg.1 8 ≤ B ∧ mg.2 a ≤ Bg
theorem tK_v {M G mo go sd pr am v : Nat} (h1 : 1 ≤ am) (h : tK M G mo go sd pr am = some v) : (sd = 0 → v ≤ pr * am ∧ v ≤ mo ∧ am < G) ∧ (¬ sd = 0 → v ≤ M ∧ am ≤ go) := by
  unfold tK at h
  by_cases hs : sd = 0
  · rw [if_pos hs] at h
    by_cases q : am < G ∧ (M * am + (G - am) - 1) / (G - am) ≤ pr * am ∧ (M * am + (G - am) - 1) / (G - am) ≤ mo
    · rw [if_pos q] at h
      have h := Option.some.inj h
      exact ⟨fun _ => ⟨by omega, by omega, q.1⟩, fun z => absurd hs z⟩
    · rw [if_neg q] at h
      cases h
  · rw [if_neg hs] at h
    by_cases q : am ≤ go ∧ pr * am ≤ M * am / (G + am)
    · rw [if_pos q] at h
      have h := Option.some.inj h
      refine ⟨fun z => absurd z hs, fun _ => ⟨?_, q.1⟩⟩
      rw [← h]
      exact Nat.le_trans (Nat.div_le_div_left (show am ≤ G + am by omega) (by omega)) (by rw [Nat.mul_div_cancel _ (by omega)]; exact Nat.le_refl M)
    · rw [if_neg q] at h
      cases h
theorem tB_N {own sd pr am : Nat → Nat} {na B Bg c : Nat} {mg : (Nat → Nat) × (Nat → Nat)} (hna : na ≤ 8) (ho : own c < na) (hp : pr c ≤ 1000) (ha1 : 1 ≤ am c) (ha : am c ≤ 1000) (h : tB na B Bg mg) : tB na (B + 1000000) (Bg + 1000) (tN own sd pr am mg c) := by
  obtain ⟨h1, h2, h3⟩ := h
  have hpa : pr c * am c ≤ 1000 * 1000 := Nat.mul_le_mul hp ha
  unfold tN
  cases ht : tS own sd pr am mg c with
  | none => exact ⟨by show mg.1 8 ≤ _; omega, by show mg.2 8 ≤ _; omega, fun a haa => by have := h3 a haa; exact ⟨by show mg.1 a + mg.1 8 ≤ _; omega, by show mg.2 a ≤ _; omega⟩⟩
  | some v =>
    obtain ⟨k1, k2⟩ := tK_v ha1 ht
    have ho3 := h3 (own c) ho
    have e8 : ¬ 8 = own c := by omega
    by_cases hs : sd c = 0
    · obtain ⟨q1, q2, q3⟩ := k1 hs
      simp only [hs, if_true]
      refine ⟨by simp [e8]; omega, by simp [e8]; omega, fun a haa => ?_⟩
      have h3a := h3 a haa
      have a8 : ¬ a = 8 := by omega
      by_cases ea : a = own c
      · subst ea
        simp [e8]
        omega
      · simp [ea, e8, a8]
        omega
    · obtain ⟨q1, q2⟩ := k2 hs
      simp only [if_neg hs]
      refine ⟨by simp [e8]; omega, by simp [e8]; omega, fun a haa => ?_⟩
      have h3a := h3 a haa
      have a8 : ¬ a = 8 := by omega
      by_cases ea : a = own c
      · subst ea
        simp [e8]
        omega
      · simp [ea, e8, a8]
        omega
/-- a market of the class, of the model, in numbers -/
def MkC (na i0 : Nat) (mg : (Nat → Nat) × (Nat → Nat)) (σ : fo_S) : Prop := ∀ a, (a < na ∨ a = 8) → σ.2 2 i0 a = lN (mg.1 a) ∧ σ.2 3 i0 a = lN (mg.2 a)
def MkM (na : Nat) (mg : (Nat → Nat) × (Nat → Nat)) (τ : fo_S) : Prop := (∀ a, a < na → τ.2 15 0 a = lN (mg.1 a) ∧ τ.2 16 0 a = lN (mg.2 a)) ∧ τ.2 0 0 25 = lN (mg.1 8) ∧ τ.2 0 0 26 = lN (mg.2 8)
theorem q_step {own sd pr am : Nat → Nat} {na B Bg c i0 : Nat} {mg : (Nat → Nat) × (Nat → Nat)} {σ : fo_S} (hna : na ≤ 8) (hB : B < 2 ^ 43) (hBg : Bg < 2 ^ 43) (hb : tB na B Bg mg) (ho : own c < na) (hs : sd c ≤ 1) (hp : pr c ≤ 1000) (ha1 : 1 ≤ am c) (ha : am c ≤ 1000) (hm : MkC na i0 mg σ) (e5 : σ.1 14 c 1 = nI (own c)) (e6 : σ.1 14 c 5 = nI (sd c)) (e7 : σ.1 14 c 6 = nI (pr c)) (e8 : σ.1 14 c 7 = nI (am c)) :
    ∃ σ' : fo_S, q_Market_trade σ i0 c = some (match tS own sd pr am mg c with | none => (-1 : Int64) | some v => lN v, σ') ∧ MkC na i0 (tN own sd pr am mg c) σ' ∧ σ'.1 = σ.1 ∧ ∀ k i j, ¬ ((k = 2 ∨ k = 3) ∧ i = i0) → σ'.2 k i j = σ.2 k i j := by
  obtain ⟨b1, b2, b3⟩ := hb
  have b3o := b3 (own c) ho
  have hm8 := hm 8 (Or.inr rfl)
  have hmo := hm (own c) (Or.inl ho)
  rw [q_tr (i0 := i0) (o := own c) (by omega) (by omega) (by omega) (by omega) hs hp ha1 ha (by omega) hm8.1 hm8.2 hmo.1 hmo.2 e5 e6 e7 e8]
  have ht : tK (mg.1 8) (mg.2 8) (mg.1 (own c)) (mg.2 (own c)) (sd c) (pr c) (am c) = tS own sd pr am mg c := rfl
  rw [ht]
  unfold tN
  cases tS own sd pr am mg c with
  | none => exact ⟨σ, rfl, hm, rfl, fun _ _ _ _ => rfl⟩
  | some v =>
    have e8' : ¬ 8 = own c := by omega
    have key : ∀ (mo go M G : Nat), MkC na i0 (fun a => if a = own c then mo else if a = 8 then M else mg.1 a, fun a => if a = own c then go else if a = 8 then G else mg.2 a) (tMv σ i0 (own c) mo go M G) ∧ (tMv σ i0 (own c) mo go M G).1 = σ.1 ∧ ∀ k i j, ¬ ((k = 2 ∨ k = 3) ∧ i = i0) → (tMv σ i0 (own c) mo go M G).2 k i j = σ.2 k i j := by
      intro mo go M G
      refine ⟨fun a haa => ?_, rfl, fun k i j hk => ?_⟩
      · have hma := hm a haa
        unfold tMv
        by_cases ea : a = own c
        · subst ea
          simp [e_pJ, show ¬ own c = 8 by omega]
        · by_cases e88 : a = 8
          · subst e88
            simp [e_pJ, e8']
          · simp [e_pJ, ea, e88, hma.1, hma.2]
      · unfold tMv
        simp only [e_pJ]
        by_cases i00 : i = i0
        · have k2 : ¬ k = 2 := fun q => hk ⟨Or.inl q, i00⟩
          have k3 : ¬ k = 3 := fun q => hk ⟨Or.inr q, i00⟩
          simp [k2, k3]
        · simp [i00]
    by_cases hs0 : sd c = 0
    · refine ⟨_, rfl, ?_⟩
      simp only [if_pos hs0]
      have := key (mg.1 (own c) - v) (mg.2 (own c) + am c) (mg.1 8 + v) (mg.2 8 - am c)
      refine ⟨fun a haa => ?_, this.2⟩
      have t1 := this.1 a haa
      by_cases ea : a = own c
      · subst ea
        simpa using t1
      · simpa [ea] using t1
    · refine ⟨_, rfl, ?_⟩
      simp only [if_neg hs0]
      have := key (mg.1 (own c) + v) (mg.2 (own c) - am c) (mg.1 8 - v) (mg.2 8 + am c)
      refine ⟨fun a haa => ?_, this.2⟩
      have t1 := this.1 a haa
      by_cases ea : a = own c
      · subst ea
        simpa using t1
      · simpa [ea] using t1
theorem r_step {own sd pr am : Nat → Nat} {na B Bg c : Nat} {mg : (Nat → Nat) × (Nat → Nat)} {τ : fo_S} (hc : c < 16) (hna : na ≤ 8) (hB : B < 2 ^ 43) (hBg : Bg < 2 ^ 43) (hb : tB na B Bg mg) (ho : own c < na) (hs : sd c ≤ 1) (hp : pr c ≤ 1000) (ha1 : 1 ≤ am c) (ha : am c ≤ 1000) (hm : MkM na mg τ) (e5 : τ.1 3 0 c = nI (own c)) (e6 : τ.1 7 0 c = nI (sd c)) (e7 : τ.1 8 0 c = nI (pr c)) (e8 : τ.1 9 0 c = nI (am c)) :
    ∃ τ' : fo_S, r_tryOne τ (nI c) = some τ' ∧ MkM na (tN own sd pr am mg c) τ' ∧ τ'.1 17 0 c = (match tS own sd pr am mg c with | none => 0 | some _ => nI (am c)) ∧ τ'.2 18 0 c = (match tS own sd pr am mg c with | none => 0 | some v => lN v) ∧ (∀ k i j, ¬ (k = 17 ∧ i = 0 ∧ j = c) → τ'.1 k i j = τ.1 k i j) ∧ ∀ k i j, ¬ k = 15 → ¬ k = 16 → ¬ (k = 18 ∧ i = 0 ∧ j = c) → ¬ (k = 0 ∧ (j = 25 ∨ j = 26)) → τ'.2 k i j = τ.2 k i j := by
  obtain ⟨b1, b2, b3⟩ := hb
  have b3o := b3 (own c) ho
  obtain ⟨hm1, hm2, hm3⟩ := hm
  have hmo := hm1 (own c) ho
  obtain ⟨τ', h1, h2⟩ := r_tr (o := own c) hc (M := mg.1 8) (G := mg.2 8) (mo := mg.1 (own c)) (go := mg.2 (own c)) (by omega) (by omega) (by omega) (by omega) hs hp ha1 ha (by omega) hm2 hm3 hmo.1 hmo.2 e5 e6 e7 e8
  refine ⟨τ', h1, ?_⟩
  have ht : tK (mg.1 8) (mg.2 8) (mg.1 (own c)) (mg.2 (own c)) (sd c) (pr c) (am c) = tS own sd pr am mg c := rfl
  rw [ht] at h2
  unfold tN
  cases hts : tS own sd pr am mg c with
  | none =>
    rw [hts] at h2
    obtain ⟨g1, g2⟩ := h2
    refine ⟨⟨fun a haa => ⟨by rw [g2]; simpa [tJ] using (hm1 a haa).1, by rw [g2]; simpa [tJ] using (hm1 a haa).2⟩, by rw [g2]; simpa [tJ] using hm2, by rw [g2]; simpa [tJ] using hm3⟩, by rw [g1]; simp [tI], by rw [g2]; simp [tJ], fun k i j hk => by rw [g1, tI, if_neg hk], fun k i j _ _ hk _ => by rw [g2, tJ, if_neg hk]⟩
  | some v =>
    rw [hts] at h2
    obtain ⟨g1, g2⟩ := h2
    have e8' : ¬ 8 = own c := by omega
    by_cases hs0 : sd c = 0
    · simp only [if_pos hs0] at g2 ⊢
      refine ⟨⟨fun a haa => ?_, ?_, ?_⟩, by rw [g1]; simp [tI], by rw [g2]; simp [tJ4], fun k i j hk => by rw [g1, tI, if_neg hk], fun k i j k15 k16 hk k0 => ?_⟩
      · have a8 : ¬ a = 8 := by omega
        by_cases ea : a = own c
        · subst ea
          rw [g2, g2]
          simp [tJ4]
        · rw [g2, g2]
          simpa [tJ4, ea, a8] using hm1 a haa
      · rw [g2]
        simp [tJ4, e8']
      · rw [g2]
        simp [tJ4, e8']
      · have k25 : ¬ (k = 0 ∧ i = 0 ∧ j = 25) := fun q => k0 ⟨q.1, Or.inl q.2.2⟩
        have k26 : ¬ (k = 0 ∧ i = 0 ∧ j = 26) := fun q => k0 ⟨q.1, Or.inr q.2.2⟩
        rw [g2, tJ4, if_neg hk, if_neg (fun q => k15 q.1), if_neg (fun q => k16 q.1), if_neg k25, if_neg k26]
    · simp only [if_neg hs0] at g2 ⊢
      refine ⟨⟨fun a haa => ?_, ?_, ?_⟩, by rw [g1]; simp [tI], by rw [g2]; simp [tJ4], fun k i j hk => by rw [g1, tI, if_neg hk], fun k i j k15 k16 hk k0 => ?_⟩
      · have a8 : ¬ a = 8 := by omega
        by_cases ea : a = own c
        · subst ea
          rw [g2, g2]
          simp [tJ4]
        · rw [g2, g2]
          simpa [tJ4, ea, a8] using hm1 a haa
      · rw [g2]
        simp [tJ4, e8']
      · rw [g2]
        simp [tJ4, e8']
      · have k25 : ¬ (k = 0 ∧ i = 0 ∧ j = 25) := fun q => k0 ⟨q.1, Or.inl q.2.2⟩
        have k26 : ¬ (k = 0 ∧ i = 0 ∧ j = 26) := fun q => k0 ⟨q.1, Or.inr q.2.2⟩
        rw [g2, tJ4, if_neg hk, if_neg (fun q => k15 q.1), if_neg (fun q => k16 q.1), if_neg k25, if_neg k26]
