theorem f_toI {am : Nat} (h : am ≤ 1000) : ((nI am).toInt64).toInt32 = nI am := by
  rw [nI_l (by omega), lN_i]
/-- the model's registers behind one call tried -/
def tI (τ : fo_S) (c : Nat) (x : Int32) (k i j : Nat) : Int32 := if k = 17 ∧ i = 0 ∧ j = c then x else τ.1 k i j
def tJ (τ : fo_S) (c : Nat) (x : Int64) (k i j : Nat) : Int64 := if k = 18 ∧ i = 0 ∧ j = c then x else τ.2 k i j
def tJ4 (τ : fo_S) (c o : Nat) (x mo go M G : Int64) (k i j : Nat) : Int64 := if k = 18 ∧ i = 0 ∧ j = c then x else if k = 15 ∧ i = 0 ∧ j = o then mo else if k = 16 ∧ i = 0 ∧ j = o then go else if k = 0 ∧ i = 0 ∧ j = 25 then M else if k = 0 ∧ i = 0 ∧ j = 26 then G else τ.2 k i j
theorem r_tr {τ : fo_S} {c M G mo go sd pr am o : Nat} (hc : c < 16) (hM : M < 2 ^ 43) (hG : G < 2 ^ 43) (hmo : mo < 2 ^ 43) (hgo : go < 2 ^ 43) (hs : sd ≤ 1) (hp : pr ≤ 1000) (ha1 : 1 ≤ am) (ha : am ≤ 1000) (ho : o < 8)
    (e1 : τ.2 0 0 25 = lN M) (e2 : τ.2 0 0 26 = lN G) (e3 : τ.2 15 0 o = lN mo) (e4 : τ.2 16 0 o = lN go) (e5 : τ.1 3 0 c = nI o) (e6 : τ.1 7 0 c = nI sd) (e7 : τ.1 8 0 c = nI pr) (e8 : τ.1 9 0 c = nI am) :
    ∃ τ' : fo_S, r_tryOne τ (nI c) = some τ' ∧ match tK M G mo go sd pr am with
      | none => (∀ k i j, τ'.1 k i j = tI τ c 0 k i j) ∧ ∀ k i j, τ'.2 k i j = tJ τ c 0 k i j
      | some v => (∀ k i j, τ'.1 k i j = tI τ c (nI am) k i j) ∧ ∀ k i j, τ'.2 k i j = if sd = 0 then tJ4 τ c o (lN v) (lN (mo - v)) (lN (go + am)) (lN (M + v)) (lN (G - am)) k i j else tJ4 τ c o (lN v) (lN (mo + v)) (lN (go - am)) (lN (M - v)) (lN (G + am)) k i j := by
  have vc := f_vi (c := c) (N := 16) (by omega) (by omega)
  have vo := f_vi (c := o) (N := 8) (by omega) (by omega)
  have hMa : M * am ≤ 2 ^ 43 * 1000 := Nat.mul_le_mul (by omega) ha
  have hpa : pr * am ≤ 1000 * 1000 := Nat.mul_le_mul hp ha
  have ea := nI_l (n := am) (by omega)
  have el := tl_lim hp ha
  have ec := f_cl (c := c) (by omega)
  have eo := f_cl (c := o) (by omega)
  have et := f_toI ha
  obtain ⟨w, hw⟩ : ∃ w, w = fo_pJ (fo_pI τ 17 0 c 0) 18 0 c 0 := ⟨_, rfl⟩
  have w1 : ∀ k i j, w.1 k i j = tI τ c 0 k i j := by
    intro k i j
    rw [hw]
    rfl
  have w2 : ∀ k i j, w.2 k i j = tJ τ c 0 k i j := by
    intro k i j
    rw [hw]
    rfl
  have x7 : w.1 7 0 c = nI sd := by rw [w1, ← e6]; simp [tI]
  have x26 : w.2 0 0 26 = lN G := by rw [w2, ← e2]; simp [tJ]
  have x25 : w.2 0 0 25 = lN M := by rw [w2, ← e1]; simp [tJ]
  have x15 : w.2 15 0 o = lN mo := by rw [w2, ← e3]; simp [tJ]
  have x16 : w.2 16 0 o = lN go := by rw [w2, ← e4]; simp [tJ]
  have d01 : ¬ nI 0 = (1 : Int32) := by decide
  unfold r_tryOne
  simp only [if_pos vc, ec, Option.bind_some]
  rw [← hw]
  simp only [x7, x26, e1, e8, lg_cmp_ge]
  rcases (show sd = 0 ∨ sd = 1 by omega) with rfl | rfl
  · have d0 : nI 0 = (0 : Int32) := rfl
    have j0 : ∀ z : fo_S, z.1 7 0 c = nI 0 → r_tryOne_J175 τ (nI c) z = some z := by
      intro z hz
      unfold r_tryOne_J175
      simp only [if_pos vc, ec, hz, if_neg d01]
    rw [if_pos d0]
    simp only [ea]
    have k0 : (lN G ≤ lN am) ↔ G ≤ am := pk_lLE (by omega) (by omega)
    simp only [k0]
    by_cases c1 : am < G
    rotate_left
    · rw [if_pos (by omega), j0 w x7]
      refine ⟨w, rfl, ?_⟩
      simp only [tK, if_true, if_neg (fun q => c1 q.1 : ¬ (am < G ∧ (M * am + (G - am) - 1) / (G - am) ≤ pr * am ∧ (M * am + (G - am) - 1) / (G - am) ≤ mo))]
      exact ⟨w1, w2⟩
    have c1' := (tl_pos (G := G) (am := am) (by omega) (by omega)).mpr c1
    have c2 : ¬ (lN G - lN am) = 0 := by
      intro q
      rw [q] at c1'
      exact absurd c1' (by decide)
    rw [if_neg (by omega)]
    simp only [if_pos c2]
    have hif : ∀ (P : Prop) (i : Decidable P), (@ite (Option fo_S) P i (r_tryOne_J94 τ (nI c) w 0) (r_tryOne_J94 τ (nI c) w 1)) = r_tryOne_J94 τ (nI c) w (@ite Int64 P i 0 1) := by
      intro P i
      by_cases hP : P <;> simp [hP]
    rw [hif]
    unfold r_tryOne_J94
    simp only [ec, e1, e5, e7, e8, el, x26]
    simp only [ea]
    simp only [tl_cost2 hM hG ha ha1 c1, lg_cmp_gt, if_pos vo, eo, x15, if_pos vc]
    obtain ⟨C, hC⟩ : ∃ C, C = (M * am + (G - am) - 1) / (G - am) := ⟨_, rfl⟩
    have hCb : C ≤ M * am + (G - am) - 1 := by rw [hC]; exact Nat.div_le_self _ _
    have ht : tK M G mo go 0 pr am = if C ≤ pr * am ∧ C ≤ mo then some C else none := by
      unfold tK
      rw [if_pos rfl, ← hC]
      by_cases q : C ≤ pr * am ∧ C ≤ mo
      · rw [if_pos ⟨c1, q⟩, if_pos q]
      · rw [if_neg (fun z => q z.2), if_neg q]
    rw [ht, ← hC]
    have k1 : (lN (pr * am) < lN C) ↔ pr * am < C := pk_lLT (by omega) (by omega)
    have k2 : (lN mo < lN C) ↔ mo < C := pk_lLT (by omega) (by omega)
    simp only [k1, k2]
    by_cases c3 : pr * am < C
    · rw [if_pos c3, if_neg (by omega), j0 w x7]
      exact ⟨w, rfl, w1, w2⟩
    rw [if_neg c3]
    by_cases c4 : mo < C
    · rw [if_pos c4, if_neg (by omega), j0 w x7]
      exact ⟨w, rfl, w1, w2⟩
    rw [if_neg c4, if_pos ⟨by omega, by omega⟩]
    simp only [Option.bind_some]
    have et' : (lN am).toInt32 = nI am := lN_i am
    simp only [et']
    obtain ⟨z, hz⟩ : ∃ z, z = fo_pJ (fo_pI w 17 0 c (nI am)) 18 0 c (lN C) := ⟨_, rfl⟩
    rw [← hz]
    have z15 : z.2 15 0 o = lN mo := by rw [hz, ← x15]; simp [e_pJ, e_pI2]
    have z16 : z.2 16 0 o = lN go := by rw [hz, ← x16]; simp [e_pJ, e_pI2]
    have z25 : z.2 0 0 25 = lN M := by rw [hz, ← x25]; simp [e_pJ, e_pI2]
    have z26 : z.2 0 0 26 = lN G := by rw [hz, ← x26]; simp [e_pJ, e_pI2]
    have z7 : z.1 7 0 c = nI 0 := by rw [hz, ← x7]; simp [e_pI, e_pJ1]
    rw [z15, lN_sub (by omega)]
    have y16 : (fo_pJ z 15 0 o (lN (mo - C))).2 16 0 o = lN go := by rw [← z16]; simp [e_pJ]
    rw [y16, lN_add]
    have y25 : (fo_pJ (fo_pJ z 15 0 o (lN (mo - C))) 16 0 o (lN (go + am))).2 0 0 25 = lN M := by rw [← z25]; simp [e_pJ]
    rw [y25, lN_add]
    have y26 : (fo_pJ (fo_pJ (fo_pJ z 15 0 o (lN (mo - C))) 16 0 o (lN (go + am))) 0 0 25 (lN (M + C))).2 0 0 26 = lN G := by rw [← z26]; simp [e_pJ]
    rw [y26, lN_sub (by omega), j0 _ (by rw [← z7]; rfl)]
    refine ⟨_, rfl, ?_, ?_⟩
    · intro k i j
      show z.1 k i j = _
      rw [hz]
      simp only [e_pJ1, e_pI, w1, tI]
      by_cases q : k = 17 ∧ i = 0 ∧ j = c <;> simp [q]
    · intro k i j
      rw [if_pos trivial, hz]
      simp only [e_pJ, e_pI2, w2, tJ, tJ4]
      by_cases q18 : k = 18
      · subst q18
        by_cases q : i = 0 ∧ j = c <;> simp [q]
      · by_cases q0 : k = 0
        · subst q0
          by_cases q25 : j = 25
          · subst q25
            simp
          · simp [q25]
        · by_cases q15 : k = 15
          · subst q15
            simp
          · simp [q18, q0, q15]
  · have d0 : ¬ nI 1 = (0 : Int32) := by decide
    have d1 : nI 1 = (1 : Int32) := rfl
    rw [if_neg d0]
    unfold r_tryOne_J175
    simp only [if_pos vc, ec, x7, if_pos d1, e1, e5, e7, e8, el, if_pos vo, eo, x16, x26]
    simp only [ea, lN_add, lN_mul, lg_cmp_lt]
    have c0' : ¬ lN (G + am) = (0 : Int64) := by
      show ¬ lN (G + am) = lN 0
      rw [pk_lEQ (by omega) (by omega)]
      omega
    have k1 : (lN go < lN am) ↔ go < am := pk_lLT (by omega) (by omega)
    simp only [k1]
    by_cases c1 : am ≤ go
    rotate_left
    · rw [if_pos (by omega)]
      refine ⟨w, rfl, ?_⟩
      simp only [tK, if_neg (show ¬ (1 : Nat) = 0 by omega), if_neg (fun q => c1 q.1 : ¬ (am ≤ go ∧ pr * am ≤ M * am / (G + am)))]
      exact ⟨w1, w2⟩
    rw [if_neg (by omega), if_pos c0']
    simp only [pk_lDiv (show M * am < 2 ^ 63 by omega) (show 0 < G + am by omega) (show G + am < 2 ^ 63 by omega)]
    obtain ⟨C, hC⟩ : ∃ C, C = M * am / (G + am) := ⟨_, rfl⟩
    have hCM : C ≤ M := by
      rw [hC]
      exact Nat.le_trans (Nat.div_le_div_left (show am ≤ G + am by omega) (by omega)) (by rw [Nat.mul_div_cancel _ (by omega)]; exact Nat.le_refl M)
    have ht : tK M G mo go 1 pr am = if pr * am ≤ C then some C else none := by
      unfold tK
      rw [if_neg (by omega), ← hC]
      by_cases q : pr * am ≤ C
      · rw [if_pos ⟨c1, q⟩, if_pos q]
      · rw [if_neg (fun z => q z.2), if_neg q]
    rw [ht, ← hC]
    have k2 : (lN C < lN (pr * am)) ↔ C < pr * am := pk_lLT (by omega) (by omega)
    simp only [k2]
    by_cases c2 : pr * am ≤ C
    rotate_left
    · rw [if_pos (by omega), if_neg c2]
      exact ⟨w, rfl, w1, w2⟩
    rw [if_neg (by omega), if_pos c2]
    simp only [Option.bind_some]
    have et' : (lN am).toInt32 = nI am := lN_i am
    simp only [et']
    obtain ⟨z, hz⟩ : ∃ z, z = fo_pJ (fo_pI w 17 0 c (nI am)) 18 0 c (lN C) := ⟨_, rfl⟩
    rw [← hz]
    have z15 : z.2 15 0 o = lN mo := by rw [hz, ← x15]; simp [e_pJ, e_pI2]
    have z16 : z.2 16 0 o = lN go := by rw [hz, ← x16]; simp [e_pJ, e_pI2]
    have z25 : z.2 0 0 25 = lN M := by rw [hz, ← x25]; simp [e_pJ, e_pI2]
    have z26 : z.2 0 0 26 = lN G := by rw [hz, ← x26]; simp [e_pJ, e_pI2]
    rw [z15, lN_add]
    have y16 : (fo_pJ z 15 0 o (lN (mo + C))).2 16 0 o = lN go := by rw [← z16]; simp [e_pJ]
    rw [y16, lN_sub c1]
    have y25 : (fo_pJ (fo_pJ z 15 0 o (lN (mo + C))) 16 0 o (lN (go - am))).2 0 0 25 = lN M := by rw [← z25]; simp [e_pJ]
    rw [y25, lN_sub hCM]
    have y26 : (fo_pJ (fo_pJ (fo_pJ z 15 0 o (lN (mo + C))) 16 0 o (lN (go - am))) 0 0 25 (lN (M - C))).2 0 0 26 = lN G := by rw [← z26]; simp [e_pJ]
    rw [y26, lN_add]
    refine ⟨_, rfl, ?_, ?_⟩
    · intro k i j
      show z.1 k i j = _
      rw [hz]
      simp only [e_pJ1, e_pI, w1, tI]
      by_cases q : k = 17 ∧ i = 0 ∧ j = c <;> simp [q]
    · intro k i j
      rw [if_neg (by omega), hz]
      simp only [e_pJ, e_pI2, w2, tJ, tJ4]
      by_cases q18 : k = 18
      · subst q18
        by_cases q : i = 0 ∧ j = c <;> simp [q]
      · by_cases q0 : k = 0
        · subst q0
          by_cases q25 : j = 25
          · subst q25
            simp
          · simp [q25]
        · by_cases q15 : k = 15
          · subst q15
            simp
          · simp [q18, q0, q15]
