/-! THE CLAIM OUT OF ONE WALK OF THE LAW'S BODY. Your part is whole_start (and what it stands on); all else here is the same for every law, but numbers. -/
def R_law : String := "FairOrderLaw"
def lw_P (b : Addr) (xs : List Int32) (args : Array Value) (s : State) : Prop := args = #[.ref b] ∧ s.IntsAt b xs ∧ xs.length ≤ 3072 ∧ (Jvm.Cond.and given_1 narrow_1).before args s = true
def lw_Q (_ : Array Value) (s : State) (o : Outcome) (t : State) : Prop := o = .returned (some (.int 1)) ∧ Framed s o t [] 600000 7302250
def lw_Z (below : List Frame) (a : Array Value) (s : State) : State → Prop := fun t => ∃ o, t.status = .running ∧ Ended t below o ∧ lw_Q a s o t
/-- the law's own end, with 1 on the stack, nothing written that was there before, its room as the claim has it -/
theorem lw_ret {p : Program} {l : Launch} {e : Env} {s : State} {m : MethodId} {below : List Frame} {meth : Method} {c : Code} {b : Nat} (hx : p.tables.exec = Jvm.exec) (hb : c.code = code) (hr : meth.sig.returnType = ret) (hlocks : meth.locks = false) {pc : Nat} {H : Heap} {ls : Array Slot} (hdg : decode code pc = .ok (.ireturn, 1)) : W p l e room_1 s m #[Value.ref b] below meth c H [] 600000 7302250 (lw_Z below #[Value.ref b] s) (F0 m pc ls [.int 1]) := by
  intro T hT X
  obtain ⟨fs, hret, hrun, hended, hW, hframe⟩ := X.leave (v := some (.int 1)) (hlocks := hlocks) (fun h => by rw [hr] at h; cases h)
  have hmeth' : T.vm.method? m = some meth := X.method'
  refine ⟨T.setFrames fs, ?_, .returned (some (.int 1)), hrun, hended, rfl, ⟨_, rfl⟩, hW, hframe⟩
  jvm_step X.here [X.here.top, hx, hb, hdg, hmeth', hr, ret, narrow_b1]
  (try refine ⟨rfl, ?_⟩); (try refine ⟨rfl, ?_⟩)
  first | (intro acts; rw [hret _ acts rfl rfl rfl]) | rw [hret _ _ rfl rfl rfl]
  exact Steps.refl _
/-- what holds at the law's entry: the machine, the code, the tables' words (any of lw_tbl by 'hts w (by decide +kernel)'), the script of L ints xs at the cell b, what the Statement gives of the start (any of its parts by flat_of_before) -/
def lw_At (p : Program) (s : State) (m : MethodId) (meth : Method) (c : Code) (b L : Nat) (xs : Nat → Int32) : Prop :=
  p.tables.exec = Jvm.exec ∧ c.code = code ∧ meth.sig.returnType = ret ∧ c.maxLocals = 4 ∧ s.vm.findClass R_law = some m.cls ∧ (∀ w ∈ lw_tbl, w.before #[Value.ref b] s = true) ∧ va_X b L xs s s.heap ∧ b < s.heap.size ∧ meth.locks = false ∧ (Jvm.Cond.and given_1 narrow_1).before #[Value.ref b] s = true
theorem fl_gt {i L : Nat} (hL : L ≤ 3072) (h : L < i + 6) (hi : i ≤ L + 6) : Int32.ofNat L - 6 < nI i := by
  show nI L - nI 6 < nI i
  by_cases h6 : 6 ≤ L
  · rw [pk_sub h6]
    exact nI_lt (by omega) (by omega)
  · have h1 : nI L - nI 6 < 0 := pk_sneg (by omega) (by omega)
    exact Int32.lt_of_lt_of_le h1 (nI_pos' (by omega))
theorem fl_ngt {i L : Nat} (hL : L ≤ 3072) (h : i + 6 ≤ L) : ¬ Int32.ofNat L - 6 < nI i := by
  show ¬ nI L - nI 6 < nI i
  rw [pk_sub (by omega)]
  exact nI_nlt (by omega) (by omega)
theorem fl_6 (i : Nat) : nI i + Int32.ofInt 6 = nI (i + 6) := by
  show nI i + nI 6 = nI (i + 6)
  exact nI_add i 6
section FOL
variable {p : Program} {l : Launch} {e : Env} {R : Room} {s : State} {m : MethodId} {args : Array Value} {below : List Frame} {meth : Method} {c : Code} {H : Heap} {locs : List Loc} {cells slots : Nat} {Q : State → Prop}
variable {pc : Nat} {ls : Array Slot} {rest st0 : List Value} {a : Array Value} {K1 K2 : Nat} {D : va_G} {cl : List vw_C} {tys : List (ClassId × FieldType)} {ad1 ad2 : Nat → Nat} {e1 e2 : Nat → va_E} {A : Nat → Prop}
theorem fl_kept {H1 : Heap} (hP2 : va_P D cl (fo_vx K2 ad2 e2) H) (hJ : ∀ i j, i < K1 → j < K2 → ad1 i ≠ ad2 j) (hk : ∀ q : Nat, q < H.size → ¬ fo_A K1 ad1 H.size q → H1[q]? = H[q]?) : va_P D cl (fo_vx K2 ad2 e2) H1 := by
  refine hP2.kept (fun k q hq => ?_)
  obtain ⟨hj, rfl⟩ := fo_vx_get hq
  have hlt := (hP2 k _ hq).lt
  refine hk _ hlt (fun h => ?_)
  rcases h with ⟨i, hi, h⟩ | h
  · exact hJ i k hi hj h.symm
  · exact absurd hlt (Nat.not_lt.mpr h)
theorem fl_A (hS : va_S A s.heap H locs) (hA : ∀ q, s.heap.size ≤ q → A q) (h1 : ∀ i, i < K1 → A (ad1 i)) : ∀ q, fo_A K1 ad1 H.size q → A q := by
  intro q hq
  rcases hq with ⟨i, hi, rfl⟩ | hq
  · exact h1 i hi
  · exact hA q (Nat.le_trans hS.1 hq)
theorem fl_calli {r : Int32} (hr : va_Run p l e R s m args below meth c H locs cells slots 0 0 (F0 m pc ls st0) rest (fo_PoI K1 D cl tys ad1 e1 H.size r a) (fo_A K1 ad1 H.size)) (hS : va_S A s.heap H locs) (hA : ∀ q, s.heap.size ≤ q → A q) (h1 : ∀ i, i < K1 → A (ad1 i)) (hJ : ∀ i j, i < K1 → j < K2 → ad1 i ≠ ad2 j) (hP2 : va_P D cl (fo_vx K2 ad2 e2) H)
    (kk : ∀ (H1 : Heap) (locs1 : List Loc), va_P D cl (fo_vx K1 ad1 e1) H1 → va_P D cl (fo_vx K2 ad2 e2) H1 → va_S A s.heap H1 locs1 → W p l e R s m args below meth c H1 locs1 cells slots Q (F0 m (pc + 3) ls (.int r :: rest))) : W p l e R s m args below meth c H locs cells slots Q (F0 m pc ls st0) := by
  refine va_calli hr hS (fun q _ h => fl_A hS hA h1 q h) (fl_A hS hA h1) (fun r1 u t H1 locs1 ht hvm hw hB hz hk hS1 => ?_)
  obtain ⟨hP1, hK1⟩ := hB
  rw [ht] at hP1
  subst hw
  exact kk H1 locs1 hP1 (fl_kept hP2 hJ hk) hS1
theorem fl_calll {r : Int64} (hr : va_Run p l e R s m args below meth c H locs cells slots 0 0 (F0 m pc ls st0) rest (fo_PoL K1 D cl tys ad1 e1 H.size r a) (fo_A K1 ad1 H.size)) (hS : va_S A s.heap H locs) (hA : ∀ q, s.heap.size ≤ q → A q) (h1 : ∀ i, i < K1 → A (ad1 i)) (hJ : ∀ i j, i < K1 → j < K2 → ad1 i ≠ ad2 j) (hP2 : va_P D cl (fo_vx K2 ad2 e2) H)
    (kk : ∀ (H1 : Heap) (locs1 : List Loc), va_P D cl (fo_vx K1 ad1 e1) H1 → va_P D cl (fo_vx K2 ad2 e2) H1 → va_S A s.heap H1 locs1 → W p l e R s m args below meth c H1 locs1 cells slots Q (F0 m (pc + 3) ls (.long r :: rest))) : W p l e R s m args below meth c H locs cells slots Q (F0 m pc ls st0) := by
  refine va_calll hr hS (fun q _ h => fl_A hS hA h1 q h) (fl_A hS hA h1) (fun r1 u t H1 locs1 ht hvm hw hB hz hk hS1 => ?_)
  obtain ⟨hP1, hK1⟩ := hB
  rw [ht] at hP1
  subst hw
  exact kk H1 locs1 hP1 (fl_kept hP2 hJ hk) hS1
end FOL
theorem fl_in {i k L : Nat} (h : i + 6 ≤ L) (hL : L ≤ 3072) (hk : k < 6) : vp_in (nI i + nI k) L := by
  rw [nI_add]
  exact vp_in_nI (by omega) (by omega)
theorem fl_in0 {i L : Nat} (h : i + 6 ≤ L) (hL : L ≤ 3072) : vp_in (nI i) L := vp_in_nI (by omega) (by omega)
