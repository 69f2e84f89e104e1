theorem f_min {m a : Nat} (hm : m < 2 ^ 62) (ha : a < 2 ^ 31) : (if lN m < (nI a).toInt64 then lN m else (nI a).toInt64) = lN (if m < a then m else a) := by
  rw [nI_l ha]
  have k : (lN m < lN a) ↔ m < a := pk_lLT (by omega) (by omega)
  by_cases c : m < a
  · rw [if_pos (k.mpr c), if_pos c]
  · rw [if_neg (fun q => c (k.mp q)), if_neg c]
theorem q_fl {c o m p a A mo go : Nat} {sell : Bool} {σ : fo_S} (ho : o < 8) (hp : p ≤ 1000) (hm : m < 2 ^ 62) (ha : a ≤ 1000) (hA : A = if m < a then m else a) (e1 : σ.1 14 c 1 = nI o) (e5 : σ.1 14 c 5 = nI (if sell then 1 else 0)) (e7 : σ.1 14 c 7 = nI a) (h2 : σ.2 2 0 o = lN mo) (h3 : σ.2 3 0 o = lN go) (hb : sell = false → A * p ≤ mo) (hs : sell = true → A ≤ go) : ∃ σ' : fo_S, q_Auction_fill σ c (lN m) (nI p) 0 = some (lN A, σ') ∧ (∀ k i j, σ'.1 k i j = if k = 14 ∧ i = c ∧ j = 8 then nI A else σ.1 k i j) ∧ ∀ k i j, σ'.2 k i j = if k = 3 ∧ i = 0 ∧ j = o then lN (if sell then go - A else go + A) else if k = 2 ∧ i = 0 ∧ j = o then lN (if sell then mo + A * p else mo - A * p) else if k = 14 ∧ i = c ∧ j = 9 then lN (A * p) else σ.2 k i j := by
  unfold q_Auction_fill q_Call_note q_Market_take q_Market_give
  have hAle : A ≤ 1000 := by rw [hA]; split <;> omega
  have em : (if lN m < (nI a).toInt64 then lN m else (nI a).toInt64).toInt32 = nI A := by rw [f_min hm (by omega), ← hA, lN_i]
  have eA : (nI A).toInt64 = lN A := nI_l (by omega)
  have ep : lN A * (nI p).toInt64 = lN (A * p) := e_m (by omega)
  obtain ⟨σ1, hσ1⟩ : ∃ s, s = fo_pJ (fo_pI σ 14 c 8 (nI A)) 14 c 9 (lN (A * p)) := ⟨_, rfl⟩
  have t5 : σ1.1 14 c 5 = nI (if sell then 1 else 0) := by rw [hσ1, e_pJ1, e_pI, if_neg (by omega)]; exact e5
  have t1 : σ1.1 14 c 1 = nI o := by rw [hσ1, e_pJ1, e_pI, if_neg (by omega)]; exact e1
  have t2 : σ1.2 2 0 o = lN mo := by rw [hσ1, e_pJ, if_neg (by omega)]; exact h2
  have t3 : ∀ v, (fo_pJ σ1 2 0 o v).2 3 0 o = lN go := fun v => by rw [e_pJ, if_neg (by omega), hσ1, e_pJ, if_neg (by omega)]; exact h3
  have u1 : ∀ k i j, σ1.1 k i j = if k = 14 ∧ i = c ∧ j = 8 then nI A else σ.1 k i j := fun k i j => by rw [hσ1, e_pJ1, e_pI]
  have u2 : ∀ k i j, σ1.2 k i j = if k = 14 ∧ i = c ∧ j = 9 then lN (A * p) else σ.2 k i j := fun k i j => by rw [hσ1, e_pJ, e_pI2]
  simp only [e7, em, eA, ep, Option.bind_some, ← hσ1, t5, t1, f_cl (show o < 1000000 by omega), if_pos (f_vi (c := o) (N := 9) (by omega) (by omega)), t2, t3]
  cases sell with
  | false =>
    have k0 : nI (if false = true then 1 else 0) = 0 := by decide
    simp only [if_pos k0, Option.bind_some, lN_sub (hb rfl), lN_add]
    exact ⟨_, rfl, fun k i j => by rw [e_pJ1, e_pJ1, u1], fun k i j => by rw [e_pJ, e_pJ, u2]; rfl⟩
  | true =>
    have k0 : ¬ nI (if true = true then 1 else 0) = 0 := by decide
    simp only [if_neg k0, Option.bind_some, lN_sub (hs rfl), lN_add]
    exact ⟨_, rfl, fun k i j => by rw [e_pJ1, e_pJ1, u1], fun k i j => by rw [e_pJ, e_pJ, u2]; rfl⟩
theorem q_stl {own sd pr am f : Nat → Nat} {mg : (Nat → Nat) × (Nat → Nat)} {na nc nr p v : Nat} {σ : fo_S} (hna : na ≤ 8) (hnr : nr ≤ 16) (hp : p ≤ 1000) (hv : v < 2 ^ 62) (hN : ∀ k, k < nr → CdN na own sd pr am (f k)) (hinj : ∀ j k, j < nr → k < nr → f j = f k → j = k) (hfc : ∀ k, k < nr → f k < nc) (hQ : BcQ own sd pr am mg na nr f σ) (hM : MkC na 0 mg σ) (hT : ∀ k, k < nr → σ.1 11 0 k = b1 (aT own sd pr am mg p f k)) (hd : ∀ c, c < nc → σ.1 14 c 8 = 0 ∧ σ.2 14 c 9 = 0) : ∃ y, fo_lp (q_Auction_settle_L24 (nI p) 0 0) fo_FU (lN v, lN v, (0 : Int32), σ) = some y ∧ MkC na 0 (bS (aT own sd pr am mg p f) own sd am f mg v p nr).2.1 y.2.2.2 ∧ (∀ c, c < nc → y.2.2.2.1 14 c 8 = nI ((bS (aT own sd pr am mg p f) own sd am f mg v p nr).2.2 c) ∧ y.2.2.2.2 14 c 9 = lN ((bS (aT own sd pr am mg p f) own sd am f mg v p nr).2.2 c * p)) ∧ (∀ k i j, ¬ (k = 14 ∧ j = 8) → y.2.2.2.1 k i j = σ.1 k i j) ∧ ∀ k i j, ¬ ((k = 2 ∨ k = 3) ∧ i = 0) → ¬ (k = 14 ∧ j = 9) → y.2.2.2.2 k i j = σ.2 k i j := by
  refine fo_lp_for (b := q_Auction_settle_L24 (nI p) 0 0) nr (fun n s => s.1 = lN (bS (aT own sd pr am mg p f) own sd am f mg v p n).1.1 ∧ s.2.1 = lN (bS (aT own sd pr am mg p f) own sd am f mg v p n).1.2 ∧ s.2.2.1 = nI n ∧ MkC na 0 (bS (aT own sd pr am mg p f) own sd am f mg v p n).2.1 s.2.2.2 ∧ (∀ c, c < nc → s.2.2.2.1 14 c 8 = nI ((bS (aT own sd pr am mg p f) own sd am f mg v p n).2.2 c) ∧ s.2.2.2.2 14 c 9 = lN ((bS (aT own sd pr am mg p f) own sd am f mg v p n).2.2 c * p)) ∧ (∀ k i j, ¬ (k = 14 ∧ j = 8) → s.2.2.2.1 k i j = σ.1 k i j) ∧ ∀ k i j, ¬ ((k = 2 ∨ k = 3) ∧ i = 0) → ¬ (k = 14 ∧ j = 9) → s.2.2.2.2 k i j = σ.2 k i j) _ ?_ ?_ ⟨rfl, rfl, rfl, hM, fun c hc => ?_, fun _ _ _ _ => rfl, fun _ _ _ _ _ => rfl⟩ (by omega)
  · rintro n ⟨b, g, u, z⟩ hn ⟨h1, h2, h3, h4, h5, h6, h7⟩
    simp only at h1 h2 h3 h4 h5 h6 h7
    subst h1
    subst h2
    subst h3
    left
    unfold q_Auction_settle_L24 q_Auction_settle_J80
    obtain ⟨r1, r2, r3⟩ := hQ.2.1 n hn
    obtain ⟨g1, g5, g6, g7⟩ := r3
    obtain ⟨o1, o2, o3, o4, o5⟩ := hN n hn
    have ho : own (f n) < 8 := by omega
    have z5 : z.1 5 0 1 = nI nr := by rw [h6 5 0 1 (by omega)]; exact hQ.1
    have z6 : z.1 6 0 n = nI (f n) := by rw [h6 6 0 n (by omega)]; exact r1
    have z11 : z.1 11 0 n = b1 (aT own sd pr am mg p f n) := by rw [h6 11 0 n (by omega)]; exact hT n hn
    have z1 : z.1 14 (f n) 1 = nI (own (f n)) := by rw [h6 14 _ 1 (by omega)]; exact g1
    have z5' : z.1 14 (f n) 5 = nI (sd (f n)) := by rw [h6 14 _ 5 (by omega)]; exact g5
    have z7 : z.1 14 (f n) 7 = nI (am (f n)) := by rw [h6 14 _ 7 (by omega)]; exact g7
    have ks : (nI (sd (f n)) = 0) ↔ sd (f n) = 0 := nI_eq (b := 0) (by omega) (by omega)
    simp only [z5, if_neg (f_nge hn (show nr < 1000000 by omega)), if_pos (f_vi (c := n) (N := 16) (by omega) (by omega)), f_cl (show n < 1000000 by omega), z6, if_pos (f_vi (c := f n) (N := 16) (by omega) (by omega)), f_cl (show f n < 1000000 by omega), z11, b1_0, z5', ks, nI_1]
    have e : bS (aT own sd pr am mg p f) own sd am f mg v p (n + 1) = bM (bS (aT own sd pr am mg p f) own sd am f mg v p n) (own (f n)) (f n) (bA (aT own sd pr am mg p f) sd am f (bS (aT own sd pr am mg p f) own sd am f mg v p n) n) p (decide (¬ sd (f n) = 0)) := rfl
    have hdn := bS_d0 (T := aT own sd pr am mg p f) (own := own) (sd := sd) (am := am) (mg := mg) (v := v) (p := p) (f := f) (c := f n) n (fun j hj q => by have := hinj j n (by omega) hn q; omega)
    have hbv := bS_v (T := aT own sd pr am mg p f) (own := own) (sd := sd) (am := am) (mg := mg) (v := v) (p := p) (f := f) n
    have hhas := bS_has (own := own) (sd := sd) (pr := pr) (am := am) (f := f) (mg := mg) (v := v) (p := p) (n := n)
    have hle := (bA_le (T := aT own sd pr am mg p f) (sd := sd) (am := am) (f := f) (s := bS (aT own sd pr am mg p f) own sd am f mg v p n) (k := n)).2
    obtain ⟨mz1, mz2⟩ := h4 (own (f n)) (Or.inl o1)
    rw [e]
    cases hTn : aT own sd pr am mg p f n with
    | false =>
      simp only [if_true]
      rw [bA_0 hTn, bM_0 _ _ _ _ _ hdn]
      exact ⟨_, rfl, rfl, rfl, rfl, h4, h5, h6, h7⟩
    | true =>
      simp only [Bool.true_eq_false, if_false]
      have eA : bA (aT own sd pr am mg p f) sd am f (bS (aT own sd pr am mg p f) own sd am f mg v p n) n = if (if sd (f n) = 0 then (bS (aT own sd pr am mg p f) own sd am f mg v p n).1.1 else (bS (aT own sd pr am mg p f) own sd am f mg v p n).1.2) < am (f n) then (if sd (f n) = 0 then (bS (aT own sd pr am mg p f) own sd am f mg v p n).1.1 else (bS (aT own sd pr am mg p f) own sd am f mg v p n).1.2) else am (f n) := by
        unfold bA
        rw [hTn, if_pos rfl]
      generalize bA (aT own sd pr am mg p f) sd am f (bS (aT own sd pr am mg p f) own sd am f mg v p n) n = A at eA hhas hle ⊢
      generalize bS (aT own sd pr am mg p f) own sd am f mg v p n = S at eA hhas hle hbv hdn mz1 mz2 h4 h5 ⊢
      have fin : ∀ (z' : fo_S) (sell : Bool), sell = decide (¬ sd (f n) = 0) → (∀ k i j, z'.1 k i j = if k = 14 ∧ i = f n ∧ j = 8 then nI A else z.1 k i j) → (∀ k i j, z'.2 k i j = if k = 3 ∧ i = 0 ∧ j = own (f n) then lN (if sell then S.2.1.2 (own (f n)) - A else S.2.1.2 (own (f n)) + A) else if k = 2 ∧ i = 0 ∧ j = own (f n) then lN (if sell then S.2.1.1 (own (f n)) + A * p else S.2.1.1 (own (f n)) - A * p) else if k = 14 ∧ i = f n ∧ j = 9 then lN (A * p) else z.2 k i j) → MkC na 0 (bM S (own (f n)) (f n) A p (decide (¬ sd (f n) = 0))).2.1 z' ∧ (∀ c, c < nc → z'.1 14 c 8 = nI ((bM S (own (f n)) (f n) A p (decide (¬ sd (f n) = 0))).2.2 c) ∧ z'.2 14 c 9 = lN ((bM S (own (f n)) (f n) A p (decide (¬ sd (f n) = 0))).2.2 c * p)) ∧ (∀ k i j, ¬ (k = 14 ∧ j = 8) → z'.1 k i j = σ.1 k i j) ∧ ∀ k i j, ¬ ((k = 2 ∨ k = 3) ∧ i = 0) → ¬ (k = 14 ∧ j = 9) → z'.2 k i j = σ.2 k i j := by
        intro z' sell hsell w1 w2
        rw [← hsell]
        refine ⟨fun a ha => ?_, fun c hc => ?_, fun k i j q => ?_, fun k i j q1 q2 => ?_⟩
        · have := h4 a ha
          rw [w2, w2]
          unfold bM
          cases sell with
          | true =>
            rw [if_pos rfl]
            show _ = lN (uN S.2.1.1 _ _ a) ∧ _ = lN (uN S.2.1.2 _ _ a)
            by_cases q : a = own (f n)
            · rw [q, uN_e, uN_e]
              simp
            · rw [uN_n q, uN_n q]
              simp only [q, and_false, if_false]
              rw [if_neg (by omega), if_neg (by omega)]
              exact this
          | false =>
            rw [if_neg (show ¬ (false = true) by decide)]
            show _ = lN (uN S.2.1.1 _ _ a) ∧ _ = lN (uN S.2.1.2 _ _ a)
            by_cases q : a = own (f n)
            · rw [q, uN_e, uN_e]
              simp
            · rw [uN_n q, uN_n q]
              simp only [q, and_false, if_false]
              rw [if_neg (by omega), if_neg (by omega)]
              exact this
        · have := h5 c hc
          rw [w1, w2, bM_d]
          rw [if_neg (show ¬ (14 = 3 ∧ c = 0 ∧ 9 = own (f n)) by omega), if_neg (show ¬ (14 = 2 ∧ c = 0 ∧ 9 = own (f n)) by omega)]
          by_cases q : c = f n
          · rw [q, uN_e, if_pos ⟨rfl, rfl, rfl⟩, if_pos ⟨rfl, rfl, rfl⟩]
            exact ⟨rfl, rfl⟩
          · rw [uN_n q, if_neg (fun r => q r.2.1), if_neg (fun r => q r.2.1)]
            exact this
        · rw [w1, if_neg (fun r => q ⟨r.1, r.2.2⟩)]
          exact h6 k i j q
        · rw [w2, if_neg (fun r => q1 ⟨Or.inr r.1, r.2.1⟩), if_neg (fun r => q1 ⟨Or.inl r.1, r.2.1⟩), if_neg (fun r => q2 ⟨r.1, r.2.2⟩)]
          exact h7 k i j q1 q2
      by_cases hs : sd (f n) = 0
      · have hsell : false = decide (¬ sd (f n) = 0) := by simp [hs]
        rw [if_pos hs] at eA hle
        obtain ⟨z', k1, k2, k3⟩ := q_fl (c := f n) (m := S.1.1) (A := A) (sell := false) (σ := z) ho hp (by omega) o5 eA z1 (by rw [z5', hs]; rfl) z7 mz1 mz2 (fun _ => hhas.1 hs) (fun q => absurd q (by decide))
        obtain ⟨x1, x2, x3, x4⟩ := fin z' false hsell k2 k3
        simp only [if_pos hs, k1, Option.bind_some, lN_sub hle]
        refine ⟨_, rfl, ?_, ?_, rfl, x1, x2, x3, x4⟩
        · rw [← hsell]; rfl
        · rw [← hsell]; rfl
      · have hsell : true = decide (¬ sd (f n) = 0) := by simp [hs]
        rw [if_neg hs] at eA hle
        obtain ⟨z', k1, k2, k3⟩ := q_fl (c := f n) (m := S.1.2) (A := A) (sell := true) (σ := z) ho hp (by omega) o5 eA z1 (by rw [z5', show sd (f n) = 1 by omega]; rfl) z7 mz1 mz2 (fun q => absurd q (by decide)) (fun _ => hhas.2 hs)
        obtain ⟨x1, x2, x3, x4⟩ := fin z' true hsell k2 k3
        simp only [if_neg hs, k1, Option.bind_some, lN_sub hle]
        refine ⟨_, rfl, ?_, ?_, rfl, x1, x2, x3, x4⟩
        · rw [← hsell]; rfl
        · rw [← hsell]; rfl
  · rintro ⟨b, g, u, z⟩ ⟨h1, h2, h3, h4, h5, h6, h7⟩
    simp only at h1 h2 h3 h4 h5 h6 h7
    subst h3
    unfold q_Auction_settle_L24
    have z5 : z.1 5 0 1 = nI nr := by rw [h6 5 0 1 (by omega)]; exact hQ.1
    simp only [z5, if_pos (f_ge (Nat.le_refl nr) (show nr < 1000000 by omega))]
    exact ⟨_, rfl, h4, h5, h6, h7⟩
  · have := hd c hc
    show σ.1 14 c 8 = nI 0 ∧ σ.2 14 c 9 = lN (0 * p)
    rw [Nat.zero_mul, nI_0]
    exact this
