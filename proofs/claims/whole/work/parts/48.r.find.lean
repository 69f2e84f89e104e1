def fE (nc : Nat) (O : Nat → Bool) (Ah : Nat → Nat → Bool) (a b : Nat) : Prop := a < nc ∧ b < nc ∧ O a = true ∧ O b = true ∧ Ah a b = true
def fR (nc : Nat) (O : Nat → Bool) (Ah : Nat → Nat → Bool) (a b : Nat) : Prop := Relation.TransGen (fE nc O Ah) a b
theorem fR_1 {nc : Nat} {O : Nat → Bool} {Ah : Nat → Nat → Bool} {a b : Nat} (h : fE nc O Ah a b) : fR nc O Ah a b := Relation.TransGen.single h
theorem fR_t {nc : Nat} {O : Nat → Bool} {Ah : Nat → Nat → Bool} {a b c : Nat} (h : fR nc O Ah a b) (h2 : fR nc O Ah b c) : fR nc O Ah a c := Relation.TransGen.trans h h2
theorem fR_r {nc : Nat} {O : Nat → Bool} {Ah : Nat → Nat → Bool} {a b : Nat} (h : fR nc O Ah a b) : b < nc ∧ O b = true := by
  cases h with
  | single h => exact ⟨h.2.1, h.2.2.2.1⟩
  | tail _ h => exact ⟨h.2.1, h.2.2.2.1⟩
theorem fR_in {nc : Nat} {O : Nat → Bool} {Ah : Nat → Nat → Bool} {T : Nat → Prop} {a b : Nat} (h0 : ∀ c, fE nc O Ah a c → T c) (hs : ∀ c d, T c → fE nc O Ah c d → T d) (h : fR nc O Ah a b) : T b := by
  induction h with
  | single h => exact h0 _ h
  | tail _ h ih => exact hs _ _ ih h
def fA (σ : fo_S) (a b : Nat) : Bool := f_ah (σ.1 15 a) (σ.1 15 b)
theorem q_sb {nc a : Nat} {O : Nat → Bool} {σ : fo_S} (hnc : nc ≤ 16) (ha : a < nc) (hO : ∀ c, c < nc → σ.1 14 c 4 = b1 (O c)) : ∃ w, q_Links_setBehind σ (nI a) (nI nc) = some w ∧ Bs nc (fun b => O a && (O b && fA σ a b)) w := by
  unfold q_Links_setBehind
  obtain ⟨y, hy, hy1⟩ := fo_lp_for (b := q_Links_setBehind_L6 σ (nI a) (nI nc)) nc (fun n s => s.2 = nI n ∧ Bs n (fun b => O a && (O b && fA σ a b)) s.1) (fun y => Bs nc (fun b => O a && (O b && fA σ a b)) y.1) (by
    rintro n ⟨w, x⟩ hn ⟨h1, h2⟩
    simp only at h1 h2
    subst h1
    left
    unfold q_Links_setBehind_L6
    have va := f_vi (c := a) (N := 16) (by omega) (by omega)
    have vn := f_vi (c := n) (N := 16) (by omega) (by omega)
    simp only [if_neg (f_nge hn (show nc < 1000000 by omega)), if_pos va, if_pos vn, f_cl (show a < 1000000 by omega), f_cl (show n < 1000000 by omega), hO a ha, hO n hn, b1_0, q_ah, Option.bind_some, nI_1]
    cases hOa : O a with
    | false =>
      simp only [if_true]
      exact ⟨_, rfl, rfl, Bs_no (by simpa [hOa] using h2) (by simp)⟩
    | true =>
      simp only [Bool.true_eq_false, if_false]
      simp only [hOa] at h2
      cases hOn : O n with
      | false =>
        simp only [if_true]
        exact ⟨_, rfl, rfl, Bs_no h2 (by simp [hOn])⟩
      | true =>
        simp only [Bool.true_eq_false, if_false]
        cases hA : f_ah (σ.1 15 a) (σ.1 15 n) with
        | false =>
          simp only [if_true]
          exact ⟨_, rfl, rfl, Bs_no h2 (by simp [hOn, fA, hA])⟩
        | true =>
          simp only [Bool.true_eq_false, if_false]
          exact ⟨_, rfl, rfl, Bs_ad h2 (by omega) (by simp [hOn, fA, hA])⟩) (by
    rintro ⟨w, x⟩ ⟨h1, h2⟩
    simp only at h1 h2
    subst h1
    unfold q_Links_setBehind_L6
    simp only [if_pos (f_ge (Nat.le_refl nc) (show nc < 1000000 by omega))]
    exact ⟨_, rfl, h2⟩) (s0 := ((0 : Int32), (0 : Int32))) ⟨rfl, Bs_0 _⟩ (by omega)
  rw [hy]
  exact ⟨_, rfl, hy1⟩
theorem q_ld {nc a b : Nat} {T : Nat → Bool} {σ : fo_S} (hnc : nc ≤ 16) (ha : a < nc) (hb : b < nc) (h : Bs nc T (σ.1 9 0 a)) : q_Links_leads σ (nI a) (nI b) = some (b1 (T b)) := by
  unfold q_Links_leads
  simp only [if_pos (f_vi (c := a) (N := 16) (by omega) (by omega)), f_cl (show a < 1000000 by omega), q_has h hb hnc, Option.bind_some, if_pos (b1_01 _)]
theorem q_find {nc : Nat} {O : Nat → Bool} {σ : fo_S} (hnc : nc ≤ 16) (hO : ∀ c, c < nc → σ.1 14 c 4 = b1 (O c)) : ∃ (σ' : fo_S) (T : Nat → Nat → Bool), q_Links_find σ (nI nc) = some σ' ∧ σ'.2 = σ.2 ∧ (∀ k i j, ¬ (k = 9 ∧ i = 0) → σ'.1 k i j = σ.1 k i j) ∧ (∀ a, a < nc → Bs nc (T a) (σ'.1 9 0 a)) ∧ ∀ a b, a < nc → b < nc → (T a b = true ↔ fR nc O (fA σ) a b) := by
  unfold q_Links_find
  obtain ⟨y, hy, hy1, hy2, hy3⟩ := fo_lp_for (b := q_Links_find_L2 (nI nc)) nc (fun n s => s.1 = nI n ∧ s.2.2 = σ.2 ∧ (∀ k i j, ¬ (k = 9 ∧ i = 0) → s.2.1 k i j = σ.1 k i j) ∧ ∀ a, a < n → Bs nc (fun b => O a && (O b && fA σ a b)) (s.2.1 9 0 a)) (fun y => y.2.2 = σ.2 ∧ (∀ k i j, ¬ (k = 9 ∧ i = 0) → y.2.1 k i j = σ.1 k i j) ∧ ∀ a, a < nc → Bs nc (fun b => O a && (O b && fA σ a b)) (y.2.1 9 0 a)) (by
    rintro n ⟨x, z⟩ hn ⟨h1, h2, h3, h4⟩
    simp only at h1 h2 h3 h4
    subst h1
    left
    unfold q_Links_find_L2
    have hfa : ∀ a b, fA z a b = fA σ a b := by
      intro a b
      unfold fA
      have e : ∀ c, z.1 15 c = σ.1 15 c := fun c => funext (fun m => h3 15 c m (by omega))
      rw [e, e]
    obtain ⟨w, g1, g2⟩ := q_sb (nc := nc) (a := n) (O := O) (σ := z) hnc hn (fun c hc => by rw [h3 _ _ _ (by omega)]; exact hO c hc)
    simp only [hfa] at g2
    simp only [if_neg (f_nge hn (show nc < 1000000 by omega)), g1, Option.bind_some, if_pos (f_vi (c := n) (N := 16) (by omega) (by omega)), f_cl (show n < 1000000 by omega), nI_1]
    refine ⟨_, rfl, rfl, h2, fun k i j hk => ?_, fun a ha => ?_⟩
    · simp only [e_pI]
      rw [if_neg (fun q => hk ⟨q.1, q.2.1⟩)]
      exact h3 k i j hk
    · simp only [e_pI]
      by_cases han : a = n
      · subst han
        simpa using g2
      · simpa [han] using h4 a (by omega)) (by
    rintro ⟨x, z⟩ ⟨h1, h2, h3, h4⟩
    simp only at h1 h2 h3 h4
    subst h1
    unfold q_Links_find_L2
    simp only [if_pos (f_ge (Nat.le_refl nc) (show nc < 1000000 by omega))]
    exact ⟨_, rfl, h2, h3, h4⟩) (s0 := ((0 : Int32), σ)) ⟨rfl, rfl, fun _ _ _ _ => rfl, fun a ha => absurd ha (Nat.not_lt_zero a)⟩ (by omega)
  rw [hy]
  simp only [Option.bind_some]
  have inner : ∀ (v : Nat) (z : fo_S) (T : Nat → Nat → Bool), v < nc → (∀ a, a < nc → Bs nc (T a) (z.1 9 0 a)) → ∃ z' : fo_S, fo_lp (q_Links_find_L36 (nI nc) (nI v, z)) fo_FU ((0 : Int32), z) = some (nI nc, z') ∧ z'.2 = z.2 ∧ (∀ k i j, ¬ (k = 9 ∧ i = 0) → z'.1 k i j = z.1 k i j) ∧ ∀ a, a < nc → Bs nc (fun b => T a b || (T a v && T v b)) (z'.1 9 0 a) := by
    intro v z T hv hT
    obtain ⟨y, hy, hy1, hy2⟩ := fo_lp_for (b := q_Links_find_L36 (nI nc) (nI v, z)) nc (fun n s => s.1 = nI n ∧ s.2.2 = z.2 ∧ (∀ k i j, ¬ (k = 9 ∧ i = 0) → s.2.1 k i j = z.1 k i j) ∧ ∀ a, a < nc → Bs nc (fun b => T a b || (decide (a < n) && (T a v && T v b))) (s.2.1 9 0 a)) (fun y => y.1 = nI nc ∧ y.2.2 = z.2 ∧ (∀ k i j, ¬ (k = 9 ∧ i = 0) → y.2.1 k i j = z.1 k i j) ∧ ∀ a, a < nc → Bs nc (fun b => T a b || (T a v && T v b)) (y.2.1 9 0 a)) (by
      rintro n ⟨x, u⟩ hn ⟨h1, h2, h3, h4⟩
      simp only at h1 h2 h3 h4
      subst h1
      left
      unfold q_Links_find_L36
      have hnn := h4 n hn
      simp only [Nat.lt_irrefl, decide_false, Bool.false_and, Bool.or_false] at hnn
      simp only [if_neg (f_nge hn (show nc < 1000000 by omega)), q_ld hnc hn hv hnn, Option.bind_some, b1_0, if_pos (f_vi (c := n) (N := 16) (by omega) (by omega)), if_pos (f_vi (c := v) (N := 16) (by omega) (by omega)), f_cl (show n < 1000000 by omega), f_cl (show v < 1000000 by omega), nI_1]
      cases hTv : T n v with
      | false =>
        simp only [if_true]
        refine ⟨_, rfl, rfl, h2, h3, fun a ha i => ?_⟩
        show bt (u.1 9 0 a) i = _
        rw [h4 a ha i]
        by_cases han : a = n
        · subst han
          simp [hTv]
        · have : (a < n + 1) ↔ a < n := by omega
          simp [this]
      | true =>
        simp only [Bool.true_eq_false, if_false]
        refine ⟨_, rfl, rfl, h2, fun k i j hk => ?_, fun a ha i => ?_⟩
        · simp only [e_pI]
          rw [if_neg (fun q => hk ⟨q.1, q.2.1⟩)]
          exact h3 k i j hk
        · simp only [e_pI]
          by_cases han : a = n
          · subst han
            simp only [and_self, if_true]
            rw [bt_or, h4 a ha i, h4 v hv i]
            have : (a < a + 1) := by omega
            simp only [Nat.lt_irrefl, decide_false, Bool.false_and, Bool.or_false, this, decide_true, Bool.true_and, hTv]
            cases decide (i < nc) <;> cases T a i <;> cases T v i <;> cases T v v <;> cases decide (v < a) <;> rfl
          · rw [if_neg (by simp [han]), h4 a ha i]
            have : (a < n + 1) ↔ a < n := by omega
            simp [this]) (by
      rintro ⟨x, u⟩ ⟨h1, h2, h3, h4⟩
      simp only at h1 h2 h3 h4
      subst h1
      unfold q_Links_find_L36
      simp only [if_pos (f_ge (Nat.le_refl nc) (show nc < 1000000 by omega))]
      refine ⟨_, rfl, rfl, h2, h3, fun a ha => ?_⟩
      have := h4 a ha
      simpa [ha] using this) (s0 := ((0 : Int32), z)) ⟨rfl, rfl, fun _ _ _ _ => rfl, fun a ha => by simpa using hT a ha⟩ (by omega)
    exact ⟨y.2, by rw [hy, ← hy1], hy2⟩
  obtain ⟨y', hy', T, g1, g2, g3, g4, g5, g6⟩ := fo_lp_for (b := q_Links_find_L28 (nI nc)) nc (fun v s => ∃ T : Nat → Nat → Bool, s.1 = nI v ∧ s.2.2 = σ.2 ∧ (∀ k i j, ¬ (k = 9 ∧ i = 0) → s.2.1 k i j = σ.1 k i j) ∧ (∀ a, a < nc → Bs nc (T a) (s.2.1 9 0 a)) ∧ (∀ a b, a < nc → b < nc → fE nc O (fA σ) a b → T a b = true) ∧ (∀ a b, a < nc → b < nc → T a b = true → fR nc O (fA σ) a b) ∧ ∀ w a b, w < v → a < nc → b < nc → T a w = true → T w b = true → T a b = true) (fun y => ∃ T : Nat → Nat → Bool, y.2.2 = σ.2 ∧ (∀ k i j, ¬ (k = 9 ∧ i = 0) → y.2.1 k i j = σ.1 k i j) ∧ (∀ a, a < nc → Bs nc (T a) (y.2.1 9 0 a)) ∧ (∀ a b, a < nc → b < nc → fE nc O (fA σ) a b → T a b = true) ∧ (∀ a b, a < nc → b < nc → T a b = true → fR nc O (fA σ) a b) ∧ ∀ w a b, w < nc → a < nc → b < nc → T a w = true → T w b = true → T a b = true) (by
    rintro v ⟨x, z⟩ hv ⟨T, h1, h2, h3, h4, h5, h6, h7⟩
    simp only at h1 h2 h3 h4
    subst h1
    left
    unfold q_Links_find_L28
    obtain ⟨z', i1, i2, i3, i4⟩ := inner v z T hv h4
    simp only [if_neg (f_nge hv (show nc < 1000000 by omega)), i1, Option.bind_some, nI_1]
    refine ⟨_, rfl, (fun a b => T a b || (T a v && T v b)), rfl, i2.trans h2, fun k i j hk => (i3 k i j hk).trans (h3 k i j hk), i4, ?_, ?_, ?_⟩
    · intro a b ha hb he
      simp [h5 a b ha hb he]
    · intro a b ha hb he
      simp only [Bool.or_eq_true, Bool.and_eq_true] at he
      rcases he with he | ⟨he1, he2⟩
      · exact h6 a b ha hb he
      · exact fR_t (h6 a v ha hv he1) (h6 v b hv hb he2)
    · intro w a b hw ha hb e1 e2
      simp only [Bool.or_eq_true, Bool.and_eq_true] at e1 e2 ⊢
      by_cases hwv : w = v
      · subst hwv
        have e1' : T a w = true := by rcases e1 with e | e; exact e; exact e.1
        have e2' : T w b = true := by rcases e2 with e | e; exact e; exact e.2
        exact Or.inr ⟨e1', e2'⟩
      · have hwl : w < v := by omega
        rcases e1 with e1 | ⟨e1, e1'⟩
        · rcases e2 with e2 | ⟨e2, e2'⟩
          · exact Or.inl (h7 w a b hwl ha hb e1 e2)
          · exact Or.inr ⟨h7 w a v hwl ha hv e1 e2, e2'⟩
        · rcases e2 with e2 | ⟨e2, e2'⟩
          · exact Or.inr ⟨e1, h7 w v b hwl hv hb e1' e2⟩
          · exact Or.inr ⟨e1, e2'⟩) (by
    rintro ⟨x, z⟩ ⟨T, h1, h2, h3, h4, h5, h6, h7⟩
    simp only at h1 h2 h3 h4
    subst h1
    unfold q_Links_find_L28
    simp only [if_pos (f_ge (Nat.le_refl nc) (show nc < 1000000 by omega))]
    exact ⟨_, rfl, T, h2, h3, h4, h5, h6, h7⟩) (s0 := ((0 : Int32), y.2)) ⟨(fun a b => O a && (O b && fA σ a b)), rfl, hy1, hy2, hy3, fun a b ha hb he => by simp [he.2.2.1, he.2.2.2.1, he.2.2.2.2], fun a b ha hb he => fR_1 (by simp only [Bool.and_eq_true] at he; exact ⟨ha, hb, he.1, he.2.1, he.2.2⟩), fun w a b hw => absurd hw (Nat.not_lt_zero w)⟩ (by omega)
  rw [hy']
  refine ⟨_, T, rfl, g1, g2, g3, fun a b ha hb => ⟨g5 a b ha hb, fun h => ?_⟩⟩
  have : b < nc ∧ T a b = true := fR_in (T := fun c => c < nc ∧ T a c = true) (fun c hc => ⟨hc.2.1, g4 a c ha hc.2.1 hc⟩) (fun c d hc hd => ⟨hd.2.1, g6 c a d hc.1 ha hd.2.1 hc.2 (g4 c d hc.1 hd.2.1 hd)⟩) h
  exact this.2
