def fr_base : Nat → Nat := fun k => match k with
  | 0 => 0
  | 1 => 1
  | 2 => 2
  | 3 => 3
  | 4 => 4
  | 5 => 5
  | 6 => 6
  | 7 => 7
  | 8 => 8
  | 9 => 9
  | 10 => 10
  | 11 => 11
  | 12 => 12
  | 13 => 13
  | 14 => 14
  | 15 => 15
  | 16 => 16
  | 17 => 17
  | 18 => 18
  | 19 => 19
  | 20 => 20
  | 21 => 21
  | 22 => 22
  | 23 => 23
  | 24 => 24
  | _ => 0
def fr_cnt : Nat → Nat := fun k => match k with
  | 0 => 1
  | 1 => 1
  | 2 => 1
  | 3 => 1
  | 4 => 1
  | 5 => 1
  | 6 => 1
  | 7 => 1
  | 8 => 1
  | 9 => 1
  | 10 => 1
  | 11 => 1
  | 12 => 1
  | 13 => 1
  | 14 => 1
  | 15 => 1
  | 16 => 1
  | 17 => 1
  | 18 => 1
  | 19 => 1
  | 20 => 1
  | 21 => 1
  | 22 => 1
  | 23 => 1
  | 24 => 1
  | _ => 0
def fr_str : Nat → Nat := fun k => match k with
  | 0 => 0
  | 1 => 0
  | 2 => 0
  | 3 => 0
  | 4 => 0
  | 5 => 0
  | 6 => 0
  | 7 => 0
  | 8 => 0
  | 9 => 0
  | 10 => 0
  | 11 => 0
  | 12 => 0
  | 13 => 0
  | 14 => 0
  | 15 => 0
  | 16 => 0
  | 17 => 0
  | 18 => 0
  | 19 => 0
  | 20 => 0
  | 21 => 0
  | 22 => 0
  | 23 => 0
  | 24 => 0
  | _ => 0
def fr_lay (k i : Nat) : Nat := fr_base k + fr_str k * i
def fr_tab : List (Nat × Nat) := [(0, 0), (1, 0), (2, 0), (3, 0), (4, 0), (5, 0), (6, 0), (7, 0), (8, 0), (9, 0), (10, 0), (11, 0), (12, 0), (13, 0), (14, 0), (15, 0), (16, 0), (17, 0), (18, 0), (19, 0), (20, 0), (21, 0), (22, 0), (23, 0), (24, 0)]
def fr_kd (j : Nat) : Nat × Nat := fr_tab.getD j (0, 0)
theorem fr_tabA : ∀ k, k < 25 → ∀ i, i < fr_cnt k → fr_lay k i < 25 ∧ fr_kd (fr_lay k i) = (k, i) := by decide +kernel
theorem fr_tabB : ∀ j, j < 25 → (fr_kd j).1 < 25 ∧ (fr_kd j).2 < fr_cnt (fr_kd j).1 ∧ fr_lay (fr_kd j).1 (fr_kd j).2 = j := by decide +kernel
def fr_row (ca : Nat → ClassId) (ad : Nat → Nat) (I : Nat → Int32) (J : Nat → Int64) (k i : Nat) : va_E := match k with
  | 0 => .inr (6, [.int (I 0), .ref (ad (fr_lay 1 0)), .ref (ad (fr_lay 2 0)), .long (J 3), .long (J 4), .long (J 5), .int (I 6), .int (I 7), .int (I 8), .ref (ad (fr_lay 3 0)), .ref (ad (fr_lay 4 0)), .ref (ad (fr_lay 5 0)), .ref (ad (fr_lay 6 0)), .ref (ad (fr_lay 7 0)), .ref (ad (fr_lay 8 0)), .ref (ad (fr_lay 9 0)), .ref (ad (fr_lay 10 0)), .int (I 17), .ref (ad (fr_lay 11 0)), .int (I 19), .ref (ad (fr_lay 12 0)), .ref (ad (fr_lay 13 0)), .ref (ad (fr_lay 14 0)), .ref (ad (fr_lay 15 0)), .ref (ad (fr_lay 16 0)), .long (J 25), .long (J 26), .ref (ad (fr_lay 17 0)), .ref (ad (fr_lay 18 0)), .ref (ad (fr_lay 19 0)), .ref (ad (fr_lay 20 0)), .ref (ad (fr_lay 21 0)), .ref (ad (fr_lay 22 0)), .ref (ad (fr_lay 23 0)), .ref (ad (fr_lay 24 0)), .long (J 35), .long (J 36)])
  | 1 => .inl (ca 1, 8, .inr (.inl J))
  | 2 => .inl (ca 1, 8, .inr (.inl J))
  | 3 => .inl (ca 0, 16, .inl I)
  | 4 => .inl (ca 1, 16, .inr (.inl J))
  | 5 => .inl (ca 1, 16, .inr (.inl J))
  | 6 => .inl (ca 2, 16, .inl I)
  | 7 => .inl (ca 0, 16, .inl I)
  | 8 => .inl (ca 0, 16, .inl I)
  | 9 => .inl (ca 0, 16, .inl I)
  | 10 => .inl (ca 0, 80, .inl I)
  | 11 => .inl (ca 0, 16, .inl I)
  | 12 => .inl (ca 0, 16, .inl I)
  | 13 => .inl (ca 1, 16, .inr (.inl J))
  | 14 => .inl (ca 0, 16, .inl I)
  | 15 => .inl (ca 1, 8, .inr (.inl J))
  | 16 => .inl (ca 1, 8, .inr (.inl J))
  | 17 => .inl (ca 0, 16, .inl I)
  | 18 => .inl (ca 1, 16, .inr (.inl J))
  | 19 => .inl (ca 2, 16, .inl I)
  | 20 => .inl (ca 2, 16, .inl I)
  | 21 => .inl (ca 2, 16, .inl I)
  | 22 => .inl (ca 2, 16, .inl I)
  | 23 => .inl (ca 1, 8, .inr (.inl J))
  | 24 => .inl (ca 1, 8, .inr (.inl J))
  | _ => .inr (0, [])
def fr_ck (ca : Nat → ClassId) (ad : Nat → Nat) (σ : fo_S) (k i : Nat) : va_E := fr_row ca ad (σ.1 k i) (σ.2 k i) k i
def fr_ce (ca : Nat → ClassId) (ad : Nat → Nat) (σ : fo_S) (j : Nat) : va_E := fr_ck ca ad σ (fr_kd j).1 (fr_kd j).2
abbrev fr_tys (ca : Nat → ClassId) : List (ClassId × FieldType) := [(ca 0, .int), (ca 1, .long), (ca 2, .boolean)]
theorem fr_at {ca : Nat → ClassId} {ad : Nat → Nat} {σ : fo_S} {k i : Nat} (hk : k < 25) (hi : i < fr_cnt k) : (fo_vx 25 ad (fr_ce ca ad σ))[fr_lay k i]? = some (ad (fr_lay k i), fr_row ca ad (σ.1 k i) (σ.2 k i) k i) := by
  obtain ⟨h1, h2⟩ := fr_tabA k hk i hi
  rw [fo_vx_at h1, fr_ce, h2, fr_ck]
theorem fr_set {ca : Nat → ClassId} {ad : Nat → Nat} {σ σ' : fo_S} {k i : Nat} {x : va_E} (hk : k < 25) (hi : i < fr_cnt k) (hx : fr_row ca ad (σ'.1 k i) (σ'.2 k i) k i = x) (h1 : ∀ k' i', ¬ (k' = k ∧ i' = i) → σ'.1 k' i' = σ.1 k' i') (h2 : ∀ k' i', ¬ (k' = k ∧ i' = i) → σ'.2 k' i' = σ.2 k' i') : (fo_vx 25 ad (fr_ce ca ad σ)).set (fr_lay k i) (ad (fr_lay k i), x) = fo_vx 25 ad (fr_ce ca ad σ') := by
  obtain ⟨q1, q2⟩ := fr_tabA k hk i hi
  refine fo_vx_set q1 ?_ ?_
  · rw [fr_ce, q2, fr_ck]
    exact hx
  · intro j hj hne
    obtain ⟨b1, b2, b3⟩ := fr_tabB j hj
    have hn : ¬ ((fr_kd j).1 = k ∧ (fr_kd j).2 = i) := fun q => hne (by rw [← b3, q.1, q.2])
    rw [fr_ce, fr_ce, fr_ck, fr_ck, h1 _ _ hn, h2 _ _ hn]
theorem fr_setI {ca : Nat → ClassId} {ad : Nat → Nat} {σ : fo_S} {k i j : Nat} {v : Int32} {x : va_E} (hk : k < 25) (hi : i < fr_cnt k) (hx : fr_row ca ad (upd (σ.1 k i) j v) (σ.2 k i) k i = x) : (fo_vx 25 ad (fr_ce ca ad σ)).set (fr_lay k i) (ad (fr_lay k i), x) = fo_vx 25 ad (fr_ce ca ad (fo_pI σ k i j v)) :=
  fr_set hk hi (by rw [fo_pI_1]; exact hx) (fun _ _ h => fo_pI_n h) (fun _ _ _ => rfl)
theorem fr_setJ {ca : Nat → ClassId} {ad : Nat → Nat} {σ : fo_S} {k i j : Nat} {v : Int64} {x : va_E} (hk : k < 25) (hi : i < fr_cnt k) (hx : fr_row ca ad (σ.1 k i) (vp_updL (σ.2 k i) j v) k i = x) : (fo_vx 25 ad (fr_ce ca ad σ)).set (fr_lay k i) (ad (fr_lay k i), x) = fo_vx 25 ad (fr_ce ca ad (fo_pJ σ k i j v)) :=
  fr_set hk hi (by rw [fo_pJ_1]; exact hx) (fun _ _ _ => rfl) (fun _ _ h => fo_pJ_n h)
theorem fr_setrI {ca : Nat → ClassId} {ad : Nat → Nat} {σ : fo_S} {k i : Nat} {f : Nat → Int32} {x : va_E} (hk : k < 25) (hi : i < fr_cnt k) (hx : fr_row ca ad f (σ.2 k i) k i = x) : (fo_vx 25 ad (fr_ce ca ad σ)).set (fr_lay k i) (ad (fr_lay k i), x) = fo_vx 25 ad (fr_ce ca ad (fo_rI σ k i f)) :=
  fr_set hk hi (by rw [fo_rI_1]; exact hx) (fun _ _ h => fo_rI_n h) (fun _ _ _ => rfl)
theorem fr_setrJ {ca : Nat → ClassId} {ad : Nat → Nat} {σ : fo_S} {k i : Nat} {f : Nat → Int64} {x : va_E} (hk : k < 25) (hi : i < fr_cnt k) (hx : fr_row ca ad (σ.1 k i) f k i = x) : (fo_vx 25 ad (fr_ce ca ad σ)).set (fr_lay k i) (ad (fr_lay k i), x) = fo_vx 25 ad (fr_ce ca ad (fo_rJ σ k i f)) :=
  fr_set hk hi (by rw [fo_rJ_1]; exact hx) (fun _ _ _ => rfl) (fun _ _ h => fo_rJ_n h)
def fr_CX (p : Program) (s : State) (m : MethodId) (args : Array Value) (c : Code) (cc : ByteArray) (nL : Nat) (own : String) (D : va_G) (ca : Nat → ClassId) (ad : Nat → Nat) : Prop :=
  p.tables.exec = Jvm.exec ∧ c.code = cc ∧ c.maxLocals = nL ∧ s.vm.findClass own = some m.cls ∧ (∀ w ∈ fo_T, w.before args s = true) ∧ va_K D vwCl (fr_tys ca) s ∧ ∀ e, va_D (fo_A 25 ad s.heap.size) (fo_vx 25 ad e)
theorem fr_mkI {l : Launch} {y : MethodName} {cc : ByteArray} {maxL : Nat} {rm : Room} {D : va_G} {ca : Nat → ClassId} {ad : Nat → Nat} {e0 e1 : Nat → va_E} {sz : Nat} {r : Int32} {av : List Value} (hy : plainName y.cls = true)
    (body : ∀ {p : Program} {e : Env} {s : State} {m : MethodId} {args : Array Value} {below : List Frame} {meth : Method} {c : Code} {Q : State → Prop}, fr_CX p s m args c cc maxL y.cls D ca ad → (∀ (pc : Nat) (ls : Array Slot) (H : Heap) (locs : List Loc), decode cc pc = .ok (.ireturn, 1) → va_P D vwCl (fo_vx 25 ad e1) H → va_S (fo_A 25 ad s.heap.size) s.heap H locs → W p l e rm s m args below meth c H locs 0 0 Q (F0 m pc ls [.int r])) → va_P D vwCl (fo_vx 25 ad e0) s.heap → W p l e rm s m args below meth c s.heap [] 0 0 Q (entryFrame m av.toArray maxL)) :
    Met l y (.code y cc maxL (some .int) :: fo_T) rm (fo_Pre 25 D vwCl (fr_tys ca) ad e0 sz av) (fo_PoI 25 D vwCl (fr_tys ca) ad e1 sz r) 0 0 (fo_A 25 ad sz) := by
  refine Met.ofW (cc := cc) (maxL := maxL) (ret := some .int) hy rfl ?_
  intro p e s m args below meth c s₁ B hml hv
  obtain ⟨rfl, hsz, hP, hK, hD0⟩ := hv
  subst hsz
  have hr := B.returns
  have hlocks := B.notSynchronized
  have hts := atoms_spec (ws := .code y cc maxL (some .int) :: fo_T) B.pre
  refine body ⟨B.exec, B.bytes, hml, findClass_of_methodNamed B.named, fun w h => hts w (List.mem_cons_of_mem _ h), hK, fun e => fo_A_D hD0⟩ (fun pc ls H locs hd hP1 hS => ?_) hP
  exact W.iret B.exec B.bytes hr (fun t ht hW => ⟨⟨r, (), rfl, rfl, by rw [ht]; exact hP1, va_K.moved hW.alike hK⟩, hS.F ht⟩) hS.2.2 hd
theorem fr_mkZ {l : Launch} {y : MethodName} {cc : ByteArray} {maxL : Nat} {rm : Room} {D : va_G} {ca : Nat → ClassId} {ad : Nat → Nat} {e0 e1 : Nat → va_E} {sz : Nat} {r : Int32} {av : List Value} (hy : plainName y.cls = true)
    (body : ∀ {p : Program} {e : Env} {s : State} {m : MethodId} {args : Array Value} {below : List Frame} {meth : Method} {c : Code} {Q : State → Prop}, fr_CX p s m args c cc maxL y.cls D ca ad → (∀ (pc : Nat) (ls : Array Slot) (H : Heap) (locs : List Loc), narrow .boolean (.int r) = .int r → decode cc pc = .ok (.ireturn, 1) → va_P D vwCl (fo_vx 25 ad e1) H → va_S (fo_A 25 ad s.heap.size) s.heap H locs → W p l e rm s m args below meth c H locs 0 0 Q (F0 m pc ls [.int r])) → va_P D vwCl (fo_vx 25 ad e0) s.heap → W p l e rm s m args below meth c s.heap [] 0 0 Q (entryFrame m av.toArray maxL)) :
    Met l y (.code y cc maxL (some .boolean) :: fo_T) rm (fo_Pre 25 D vwCl (fr_tys ca) ad e0 sz av) (fo_PoI 25 D vwCl (fr_tys ca) ad e1 sz r) 0 0 (fo_A 25 ad sz) := by
  refine Met.ofW (cc := cc) (maxL := maxL) (ret := some .boolean) hy rfl ?_
  intro p e s m args below meth c s₁ B hml hv
  obtain ⟨rfl, hsz, hP, hK, hD0⟩ := hv
  subst hsz
  have hr := B.returns
  have hlocks := B.notSynchronized
  have hts := atoms_spec (ws := .code y cc maxL (some .boolean) :: fo_T) B.pre
  refine body ⟨B.exec, B.bytes, hml, findClass_of_methodNamed B.named, fun w h => hts w (List.mem_cons_of_mem _ h), hK, fun e => fo_A_D hD0⟩ (fun pc ls H locs hz hd hP1 hS => ?_) hP
  exact W.zret B.exec B.bytes hr hz (fun t ht hW => ⟨⟨r, (), rfl, rfl, by rw [ht]; exact hP1, va_K.moved hW.alike hK⟩, hS.F ht⟩) hS.2.2 hd
theorem fr_mkL {l : Launch} {y : MethodName} {cc : ByteArray} {maxL : Nat} {rm : Room} {D : va_G} {ca : Nat → ClassId} {ad : Nat → Nat} {e0 e1 : Nat → va_E} {sz : Nat} {r : Int64} {av : List Value} (hy : plainName y.cls = true)
    (body : ∀ {p : Program} {e : Env} {s : State} {m : MethodId} {args : Array Value} {below : List Frame} {meth : Method} {c : Code} {Q : State → Prop}, fr_CX p s m args c cc maxL y.cls D ca ad → (∀ (pc : Nat) (ls : Array Slot) (H : Heap) (locs : List Loc), decode cc pc = .ok (.lreturn, 1) → va_P D vwCl (fo_vx 25 ad e1) H → va_S (fo_A 25 ad s.heap.size) s.heap H locs → W p l e rm s m args below meth c H locs 0 0 Q (F0 m pc ls [.long r])) → va_P D vwCl (fo_vx 25 ad e0) s.heap → W p l e rm s m args below meth c s.heap [] 0 0 Q (entryFrame m av.toArray maxL)) :
    Met l y (.code y cc maxL (some .long) :: fo_T) rm (fo_Pre 25 D vwCl (fr_tys ca) ad e0 sz av) (fo_PoL 25 D vwCl (fr_tys ca) ad e1 sz r) 0 0 (fo_A 25 ad sz) := by
  refine Met.ofW (cc := cc) (maxL := maxL) (ret := some .long) hy rfl ?_
  intro p e s m args below meth c s₁ B hml hv
  obtain ⟨rfl, hsz, hP, hK, hD0⟩ := hv
  subst hsz
  have hr := B.returns
  have hlocks := B.notSynchronized
  have hts := atoms_spec (ws := .code y cc maxL (some .long) :: fo_T) B.pre
  refine body ⟨B.exec, B.bytes, hml, findClass_of_methodNamed B.named, fun w h => hts w (List.mem_cons_of_mem _ h), hK, fun e => fo_A_D hD0⟩ (fun pc ls H locs hd hP1 hS => ?_) hP
  exact W.lret B.exec B.bytes hr (fun t ht hW => ⟨⟨r, (), rfl, rfl, by rw [ht]; exact hP1, va_K.moved hW.alike hK⟩, hS.F ht⟩) hS.2.2 hd
theorem fr_mkV {l : Launch} {y : MethodName} {cc : ByteArray} {maxL : Nat} {rm : Room} {D : va_G} {ca : Nat → ClassId} {ad : Nat → Nat} {e0 e1 : Nat → va_E} {sz : Nat} {av : List Value} (hy : plainName y.cls = true)
    (body : ∀ {p : Program} {e : Env} {s : State} {m : MethodId} {args : Array Value} {below : List Frame} {meth : Method} {c : Code} {Q : State → Prop}, fr_CX p s m args c cc maxL y.cls D ca ad → (∀ (pc : Nat) (ls : Array Slot) (H : Heap) (locs : List Loc), decode cc pc = .ok (.return_, 1) → va_P D vwCl (fo_vx 25 ad e1) H → va_S (fo_A 25 ad s.heap.size) s.heap H locs → W p l e rm s m args below meth c H locs 0 0 Q (F0 m pc ls [])) → va_P D vwCl (fo_vx 25 ad e0) s.heap → W p l e rm s m args below meth c s.heap [] 0 0 Q (entryFrame m av.toArray maxL)) :
    Met l y (.code y cc maxL (none) :: fo_T) rm (fo_Pre 25 D vwCl (fr_tys ca) ad e0 sz av) (fo_PoV 25 D vwCl (fr_tys ca) ad e1 sz) 0 0 (fo_A 25 ad sz) := by
  refine Met.ofW (cc := cc) (maxL := maxL) (ret := none) hy rfl ?_
  intro p e s m args below meth c s₁ B hml hv
  obtain ⟨rfl, hsz, hP, hK, hD0⟩ := hv
  subst hsz
  have hr := B.returns
  have hlocks := B.notSynchronized
  have hts := atoms_spec (ws := .code y cc maxL (none) :: fo_T) B.pre
  refine body ⟨B.exec, B.bytes, hml, findClass_of_methodNamed B.named, fun w h => hts w (List.mem_cons_of_mem _ h), hK, fun e => fo_A_D hD0⟩ (fun pc ls H locs hd hP1 hS => ?_) hP
  exact W.vret B.exec B.bytes hr (fun t ht hW => ⟨⟨(), rfl, trivial, by rw [ht]; exact hP1, va_K.moved hW.alike hK⟩, hS.F ht⟩) hS.2.2 hd
section FRM
variable {p : Program} {l : Launch} {e : Env} {R : Room} {s : State} {m : MethodId} {args : Array Value} {below : List Frame} {meth : Method} {c : Code} {H : Heap} {locs : List Loc} {cells slots : Nat} {Q : State → Prop}
variable {cc : ByteArray} {pc : Nat} {ls : Array Slot} {rest : List Value} {D : va_G} {A : Nat → Prop} {H0 : Heap} {ca : Nat → ClassId} {ad : Nat → Nat} {σ : fo_S}
theorem fr_iald (hx : p.tables.exec = Jvm.exec) (hb : c.code = cc) (hK : va_K D vwCl (fr_tys ca) s) (hP : va_P D vwCl (fo_vx 25 ad (fr_ce ca ad σ)) H) {k i n : Nat} (hk : k < 25) (hi : i < fr_cnt k) (hrow : ∀ (I : Nat → Int32) (J : Nat → Int64), fr_row ca ad I J k i = .inl (ca 0, n, .inl I)) {ix : Int32} (hin : vp_in ix n) (hdg : decode cc pc = .ok (.iaload, 1))
    (kk : W p l e R s m args below meth c H locs cells slots Q (F0 m (pc + 1) ls (.int (σ.1 k i ix.toNatClampNeg) :: rest))) : W p l e R s m args below meth c H locs cells slots Q (F0 m pc ls (.int ix :: .ref (ad (fr_lay k i)) :: rest)) :=
  va_iald hx hb hK hP (fr_lay k i) 0 (by rw [fr_at hk hi, hrow]) rfl hin hdg kk
theorem fr_zald (hx : p.tables.exec = Jvm.exec) (hb : c.code = cc) (hK : va_K D vwCl (fr_tys ca) s) (hP : va_P D vwCl (fo_vx 25 ad (fr_ce ca ad σ)) H) {k i n : Nat} (hk : k < 25) (hi : i < fr_cnt k) (hrow : ∀ (I : Nat → Int32) (J : Nat → Int64), fr_row ca ad I J k i = .inl (ca 2, n, .inl I)) {ix : Int32} (hin : vp_in ix n) (hdg : decode cc pc = .ok (.baload, 1))
    (kk : W p l e R s m args below meth c H locs cells slots Q (F0 m (pc + 1) ls (.int (σ.1 k i ix.toNatClampNeg) :: rest))) : W p l e R s m args below meth c H locs cells slots Q (F0 m pc ls (.int ix :: .ref (ad (fr_lay k i)) :: rest)) :=
  va_zald hx hb hK hP (fr_lay k i) 2 (by rw [fr_at hk hi, hrow]) rfl hin hdg kk
theorem fr_lald (hx : p.tables.exec = Jvm.exec) (hb : c.code = cc) (hK : va_K D vwCl (fr_tys ca) s) (hP : va_P D vwCl (fo_vx 25 ad (fr_ce ca ad σ)) H) {k i n : Nat} (hk : k < 25) (hi : i < fr_cnt k) (hrow : ∀ (I : Nat → Int32) (J : Nat → Int64), fr_row ca ad I J k i = .inl (ca 1, n, .inr (.inl J))) {ix : Int32} (hin : vp_in ix n) (hdg : decode cc pc = .ok (.laload, 1))
    (kk : W p l e R s m args below meth c H locs cells slots Q (F0 m (pc + 1) ls (.long (σ.2 k i ix.toNatClampNeg) :: rest))) : W p l e R s m args below meth c H locs cells slots Q (F0 m pc ls (.int ix :: .ref (ad (fr_lay k i)) :: rest)) :=
  va_lald hx hb hK hP (fr_lay k i) 1 (by rw [fr_at hk hi, hrow]) rfl hin hdg kk
theorem fr_iast (hx : p.tables.exec = Jvm.exec) (hb : c.code = cc) (hK : va_K D vwCl (fr_tys ca) s) (hP : va_P D vwCl (fo_vx 25 ad (fr_ce ca ad σ)) H) (hD : ∀ e, va_D A (fo_vx 25 ad e)) (hS : va_S A H0 H locs) {k i n : Nat} (hk : k < 25) (hi : i < fr_cnt k) (hrow : ∀ (I : Nat → Int32) (J : Nat → Int64), fr_row ca ad I J k i = .inl (ca 0, n, .inl I)) {ix : Int32} {x : Int32} (hin : vp_in ix n) (hdg : decode cc pc = .ok (.iastore, 1))
    (kk : ∀ (H1 : Heap) (locs1 : List Loc), va_P D vwCl (fo_vx 25 ad (fr_ce ca ad (fo_pI σ k i ix.toNatClampNeg x))) H1 → va_S A H0 H1 locs1 → W p l e R s m args below meth c H1 locs1 cells slots Q (F0 m (pc + 1) ls rest)) : W p l e R s m args below meth c H locs cells slots Q (F0 m pc ls (.int x :: .int ix :: .ref (ad (fr_lay k i)) :: rest)) := by
  refine va_iast hx hb hK hP (hD _) hS (fr_lay k i) 0 (by rw [fr_at hk hi, hrow]) rfl hin hdg (fun H1 locs1 hP1 hD1 hS1 => ?_)
  rw [fr_setI hk hi (hrow _ _)] at hP1
  exact kk H1 locs1 hP1 hS1
theorem fr_zast (hx : p.tables.exec = Jvm.exec) (hb : c.code = cc) (hK : va_K D vwCl (fr_tys ca) s) (hP : va_P D vwCl (fo_vx 25 ad (fr_ce ca ad σ)) H) (hD : ∀ e, va_D A (fo_vx 25 ad e)) (hS : va_S A H0 H locs) {k i n : Nat} (hk : k < 25) (hi : i < fr_cnt k) (hrow : ∀ (I : Nat → Int32) (J : Nat → Int64), fr_row ca ad I J k i = .inl (ca 2, n, .inl I)) {ix : Int32} {x : Int32} (hin : vp_in ix n) (hdg : decode cc pc = .ok (.bastore, 1))
    (kk : ∀ (H1 : Heap) (locs1 : List Loc), va_P D vwCl (fo_vx 25 ad (fr_ce ca ad (fo_pI σ k i ix.toNatClampNeg (vp_nar .boolean x)))) H1 → va_S A H0 H1 locs1 → W p l e R s m args below meth c H1 locs1 cells slots Q (F0 m (pc + 1) ls rest)) : W p l e R s m args below meth c H locs cells slots Q (F0 m pc ls (.int x :: .int ix :: .ref (ad (fr_lay k i)) :: rest)) := by
  refine va_zast hx hb hK hP (hD _) hS (fr_lay k i) 2 (by rw [fr_at hk hi, hrow]) rfl hin hdg (fun H1 locs1 hP1 hD1 hS1 => ?_)
  rw [fr_setI hk hi (hrow _ _)] at hP1
  exact kk H1 locs1 hP1 hS1
theorem fr_last (hx : p.tables.exec = Jvm.exec) (hb : c.code = cc) (hK : va_K D vwCl (fr_tys ca) s) (hP : va_P D vwCl (fo_vx 25 ad (fr_ce ca ad σ)) H) (hD : ∀ e, va_D A (fo_vx 25 ad e)) (hS : va_S A H0 H locs) {k i n : Nat} (hk : k < 25) (hi : i < fr_cnt k) (hrow : ∀ (I : Nat → Int32) (J : Nat → Int64), fr_row ca ad I J k i = .inl (ca 1, n, .inr (.inl J))) {ix : Int32} {x : Int64} (hin : vp_in ix n) (hdg : decode cc pc = .ok (.lastore, 1))
    (kk : ∀ (H1 : Heap) (locs1 : List Loc), va_P D vwCl (fo_vx 25 ad (fr_ce ca ad (fo_pJ σ k i ix.toNatClampNeg x))) H1 → va_S A H0 H1 locs1 → W p l e R s m args below meth c H1 locs1 cells slots Q (F0 m (pc + 1) ls rest)) : W p l e R s m args below meth c H locs cells slots Q (F0 m pc ls (.long x :: .int ix :: .ref (ad (fr_lay k i)) :: rest)) := by
  refine va_last hx hb hK hP (hD _) hS (fr_lay k i) 1 (by rw [fr_at hk hi, hrow]) rfl hin hdg (fun H1 locs1 hP1 hD1 hS1 => ?_)
  rw [fr_setJ hk hi (hrow _ _)] at hP1
  exact kk H1 locs1 hP1 hS1
theorem fr_rc0 {s : State} {H : Heap} {D : va_G} {ca : Nat → ClassId} {ad : Nat → Nat} {σ : fo_S} (hK : va_K D vwCl (fr_tys ca) s) (hP : va_P D vwCl (fo_vx 25 ad (fr_ce ca ad σ)) H) {i : Nat} (hi : i < 1) : ∃ cell : Cell, H[ad (fr_lay 0 i)]? = some cell ∧ cell.vm.isStatics = false ∧ s.vm.findClass RX6 = some cell.cls :=
  va_recv hK hP (ci := 6) (q0 := fr_lay 0 i) rfl (fr_at (by decide) hi)
theorem fr_alen_1 (hx : p.tables.exec = Jvm.exec) (hb : c.code = cc) (hK : va_K D vwCl (fr_tys ca) s) (hP : va_P D vwCl (fo_vx 25 ad (fr_ce ca ad σ)) H) {i : Nat} (hi : i < 1) (hdg : decode cc pc = .ok (.arraylength, 1))
    (kk : W p l e R s m args below meth c H locs cells slots Q (F0 m (pc + 1) ls (.int 8 :: rest))) : W p l e R s m args below meth c H locs cells slots Q (F0 m pc ls (.ref (ad (fr_lay 1 i)) :: rest)) :=
  va_alen hx hb hK hP (fr_lay 1 i) 1 (fr_at (by decide) hi) rfl rfl hdg kk
theorem fr_alen_2 (hx : p.tables.exec = Jvm.exec) (hb : c.code = cc) (hK : va_K D vwCl (fr_tys ca) s) (hP : va_P D vwCl (fo_vx 25 ad (fr_ce ca ad σ)) H) {i : Nat} (hi : i < 1) (hdg : decode cc pc = .ok (.arraylength, 1))
    (kk : W p l e R s m args below meth c H locs cells slots Q (F0 m (pc + 1) ls (.int 8 :: rest))) : W p l e R s m args below meth c H locs cells slots Q (F0 m pc ls (.ref (ad (fr_lay 2 i)) :: rest)) :=
  va_alen hx hb hK hP (fr_lay 2 i) 1 (fr_at (by decide) hi) rfl rfl hdg kk
theorem fr_alen_3 (hx : p.tables.exec = Jvm.exec) (hb : c.code = cc) (hK : va_K D vwCl (fr_tys ca) s) (hP : va_P D vwCl (fo_vx 25 ad (fr_ce ca ad σ)) H) {i : Nat} (hi : i < 1) (hdg : decode cc pc = .ok (.arraylength, 1))
    (kk : W p l e R s m args below meth c H locs cells slots Q (F0 m (pc + 1) ls (.int 16 :: rest))) : W p l e R s m args below meth c H locs cells slots Q (F0 m pc ls (.ref (ad (fr_lay 3 i)) :: rest)) :=
  va_alen hx hb hK hP (fr_lay 3 i) 0 (fr_at (by decide) hi) rfl rfl hdg kk
theorem fr_alen_4 (hx : p.tables.exec = Jvm.exec) (hb : c.code = cc) (hK : va_K D vwCl (fr_tys ca) s) (hP : va_P D vwCl (fo_vx 25 ad (fr_ce ca ad σ)) H) {i : Nat} (hi : i < 1) (hdg : decode cc pc = .ok (.arraylength, 1))
    (kk : W p l e R s m args below meth c H locs cells slots Q (F0 m (pc + 1) ls (.int 16 :: rest))) : W p l e R s m args below meth c H locs cells slots Q (F0 m pc ls (.ref (ad (fr_lay 4 i)) :: rest)) :=
  va_alen hx hb hK hP (fr_lay 4 i) 1 (fr_at (by decide) hi) rfl rfl hdg kk
theorem fr_alen_5 (hx : p.tables.exec = Jvm.exec) (hb : c.code = cc) (hK : va_K D vwCl (fr_tys ca) s) (hP : va_P D vwCl (fo_vx 25 ad (fr_ce ca ad σ)) H) {i : Nat} (hi : i < 1) (hdg : decode cc pc = .ok (.arraylength, 1))
    (kk : W p l e R s m args below meth c H locs cells slots Q (F0 m (pc + 1) ls (.int 16 :: rest))) : W p l e R s m args below meth c H locs cells slots Q (F0 m pc ls (.ref (ad (fr_lay 5 i)) :: rest)) :=
  va_alen hx hb hK hP (fr_lay 5 i) 1 (fr_at (by decide) hi) rfl rfl hdg kk
theorem fr_alen_6 (hx : p.tables.exec = Jvm.exec) (hb : c.code = cc) (hK : va_K D vwCl (fr_tys ca) s) (hP : va_P D vwCl (fo_vx 25 ad (fr_ce ca ad σ)) H) {i : Nat} (hi : i < 1) (hdg : decode cc pc = .ok (.arraylength, 1))
    (kk : W p l e R s m args below meth c H locs cells slots Q (F0 m (pc + 1) ls (.int 16 :: rest))) : W p l e R s m args below meth c H locs cells slots Q (F0 m pc ls (.ref (ad (fr_lay 6 i)) :: rest)) :=
  va_alen hx hb hK hP (fr_lay 6 i) 2 (fr_at (by decide) hi) rfl rfl hdg kk
theorem fr_alen_7 (hx : p.tables.exec = Jvm.exec) (hb : c.code = cc) (hK : va_K D vwCl (fr_tys ca) s) (hP : va_P D vwCl (fo_vx 25 ad (fr_ce ca ad σ)) H) {i : Nat} (hi : i < 1) (hdg : decode cc pc = .ok (.arraylength, 1))
    (kk : W p l e R s m args below meth c H locs cells slots Q (F0 m (pc + 1) ls (.int 16 :: rest))) : W p l e R s m args below meth c H locs cells slots Q (F0 m pc ls (.ref (ad (fr_lay 7 i)) :: rest)) :=
  va_alen hx hb hK hP (fr_lay 7 i) 0 (fr_at (by decide) hi) rfl rfl hdg kk
theorem fr_alen_8 (hx : p.tables.exec = Jvm.exec) (hb : c.code = cc) (hK : va_K D vwCl (fr_tys ca) s) (hP : va_P D vwCl (fo_vx 25 ad (fr_ce ca ad σ)) H) {i : Nat} (hi : i < 1) (hdg : decode cc pc = .ok (.arraylength, 1))
    (kk : W p l e R s m args below meth c H locs cells slots Q (F0 m (pc + 1) ls (.int 16 :: rest))) : W p l e R s m args below meth c H locs cells slots Q (F0 m pc ls (.ref (ad (fr_lay 8 i)) :: rest)) :=
  va_alen hx hb hK hP (fr_lay 8 i) 0 (fr_at (by decide) hi) rfl rfl hdg kk
theorem fr_alen_9 (hx : p.tables.exec = Jvm.exec) (hb : c.code = cc) (hK : va_K D vwCl (fr_tys ca) s) (hP : va_P D vwCl (fo_vx 25 ad (fr_ce ca ad σ)) H) {i : Nat} (hi : i < 1) (hdg : decode cc pc = .ok (.arraylength, 1))
    (kk : W p l e R s m args below meth c H locs cells slots Q (F0 m (pc + 1) ls (.int 16 :: rest))) : W p l e R s m args below meth c H locs cells slots Q (F0 m pc ls (.ref (ad (fr_lay 9 i)) :: rest)) :=
  va_alen hx hb hK hP (fr_lay 9 i) 0 (fr_at (by decide) hi) rfl rfl hdg kk
theorem fr_alen_10 (hx : p.tables.exec = Jvm.exec) (hb : c.code = cc) (hK : va_K D vwCl (fr_tys ca) s) (hP : va_P D vwCl (fo_vx 25 ad (fr_ce ca ad σ)) H) {i : Nat} (hi : i < 1) (hdg : decode cc pc = .ok (.arraylength, 1))
    (kk : W p l e R s m args below meth c H locs cells slots Q (F0 m (pc + 1) ls (.int 80 :: rest))) : W p l e R s m args below meth c H locs cells slots Q (F0 m pc ls (.ref (ad (fr_lay 10 i)) :: rest)) :=
  va_alen hx hb hK hP (fr_lay 10 i) 0 (fr_at (by decide) hi) rfl rfl hdg kk
theorem fr_alen_11 (hx : p.tables.exec = Jvm.exec) (hb : c.code = cc) (hK : va_K D vwCl (fr_tys ca) s) (hP : va_P D vwCl (fo_vx 25 ad (fr_ce ca ad σ)) H) {i : Nat} (hi : i < 1) (hdg : decode cc pc = .ok (.arraylength, 1))
    (kk : W p l e R s m args below meth c H locs cells slots Q (F0 m (pc + 1) ls (.int 16 :: rest))) : W p l e R s m args below meth c H locs cells slots Q (F0 m pc ls (.ref (ad (fr_lay 11 i)) :: rest)) :=
  va_alen hx hb hK hP (fr_lay 11 i) 0 (fr_at (by decide) hi) rfl rfl hdg kk
theorem fr_alen_12 (hx : p.tables.exec = Jvm.exec) (hb : c.code = cc) (hK : va_K D vwCl (fr_tys ca) s) (hP : va_P D vwCl (fo_vx 25 ad (fr_ce ca ad σ)) H) {i : Nat} (hi : i < 1) (hdg : decode cc pc = .ok (.arraylength, 1))
    (kk : W p l e R s m args below meth c H locs cells slots Q (F0 m (pc + 1) ls (.int 16 :: rest))) : W p l e R s m args below meth c H locs cells slots Q (F0 m pc ls (.ref (ad (fr_lay 12 i)) :: rest)) :=
  va_alen hx hb hK hP (fr_lay 12 i) 0 (fr_at (by decide) hi) rfl rfl hdg kk
theorem fr_alen_13 (hx : p.tables.exec = Jvm.exec) (hb : c.code = cc) (hK : va_K D vwCl (fr_tys ca) s) (hP : va_P D vwCl (fo_vx 25 ad (fr_ce ca ad σ)) H) {i : Nat} (hi : i < 1) (hdg : decode cc pc = .ok (.arraylength, 1))
    (kk : W p l e R s m args below meth c H locs cells slots Q (F0 m (pc + 1) ls (.int 16 :: rest))) : W p l e R s m args below meth c H locs cells slots Q (F0 m pc ls (.ref (ad (fr_lay 13 i)) :: rest)) :=
  va_alen hx hb hK hP (fr_lay 13 i) 1 (fr_at (by decide) hi) rfl rfl hdg kk
theorem fr_alen_14 (hx : p.tables.exec = Jvm.exec) (hb : c.code = cc) (hK : va_K D vwCl (fr_tys ca) s) (hP : va_P D vwCl (fo_vx 25 ad (fr_ce ca ad σ)) H) {i : Nat} (hi : i < 1) (hdg : decode cc pc = .ok (.arraylength, 1))
    (kk : W p l e R s m args below meth c H locs cells slots Q (F0 m (pc + 1) ls (.int 16 :: rest))) : W p l e R s m args below meth c H locs cells slots Q (F0 m pc ls (.ref (ad (fr_lay 14 i)) :: rest)) :=
  va_alen hx hb hK hP (fr_lay 14 i) 0 (fr_at (by decide) hi) rfl rfl hdg kk
theorem fr_alen_15 (hx : p.tables.exec = Jvm.exec) (hb : c.code = cc) (hK : va_K D vwCl (fr_tys ca) s) (hP : va_P D vwCl (fo_vx 25 ad (fr_ce ca ad σ)) H) {i : Nat} (hi : i < 1) (hdg : decode cc pc = .ok (.arraylength, 1))
    (kk : W p l e R s m args below meth c H locs cells slots Q (F0 m (pc + 1) ls (.int 8 :: rest))) : W p l e R s m args below meth c H locs cells slots Q (F0 m pc ls (.ref (ad (fr_lay 15 i)) :: rest)) :=
  va_alen hx hb hK hP (fr_lay 15 i) 1 (fr_at (by decide) hi) rfl rfl hdg kk
theorem fr_alen_16 (hx : p.tables.exec = Jvm.exec) (hb : c.code = cc) (hK : va_K D vwCl (fr_tys ca) s) (hP : va_P D vwCl (fo_vx 25 ad (fr_ce ca ad σ)) H) {i : Nat} (hi : i < 1) (hdg : decode cc pc = .ok (.arraylength, 1))
    (kk : W p l e R s m args below meth c H locs cells slots Q (F0 m (pc + 1) ls (.int 8 :: rest))) : W p l e R s m args below meth c H locs cells slots Q (F0 m pc ls (.ref (ad (fr_lay 16 i)) :: rest)) :=
  va_alen hx hb hK hP (fr_lay 16 i) 1 (fr_at (by decide) hi) rfl rfl hdg kk
theorem fr_alen_17 (hx : p.tables.exec = Jvm.exec) (hb : c.code = cc) (hK : va_K D vwCl (fr_tys ca) s) (hP : va_P D vwCl (fo_vx 25 ad (fr_ce ca ad σ)) H) {i : Nat} (hi : i < 1) (hdg : decode cc pc = .ok (.arraylength, 1))
    (kk : W p l e R s m args below meth c H locs cells slots Q (F0 m (pc + 1) ls (.int 16 :: rest))) : W p l e R s m args below meth c H locs cells slots Q (F0 m pc ls (.ref (ad (fr_lay 17 i)) :: rest)) :=
  va_alen hx hb hK hP (fr_lay 17 i) 0 (fr_at (by decide) hi) rfl rfl hdg kk
theorem fr_alen_18 (hx : p.tables.exec = Jvm.exec) (hb : c.code = cc) (hK : va_K D vwCl (fr_tys ca) s) (hP : va_P D vwCl (fo_vx 25 ad (fr_ce ca ad σ)) H) {i : Nat} (hi : i < 1) (hdg : decode cc pc = .ok (.arraylength, 1))
    (kk : W p l e R s m args below meth c H locs cells slots Q (F0 m (pc + 1) ls (.int 16 :: rest))) : W p l e R s m args below meth c H locs cells slots Q (F0 m pc ls (.ref (ad (fr_lay 18 i)) :: rest)) :=
  va_alen hx hb hK hP (fr_lay 18 i) 1 (fr_at (by decide) hi) rfl rfl hdg kk
theorem fr_alen_19 (hx : p.tables.exec = Jvm.exec) (hb : c.code = cc) (hK : va_K D vwCl (fr_tys ca) s) (hP : va_P D vwCl (fo_vx 25 ad (fr_ce ca ad σ)) H) {i : Nat} (hi : i < 1) (hdg : decode cc pc = .ok (.arraylength, 1))
    (kk : W p l e R s m args below meth c H locs cells slots Q (F0 m (pc + 1) ls (.int 16 :: rest))) : W p l e R s m args below meth c H locs cells slots Q (F0 m pc ls (.ref (ad (fr_lay 19 i)) :: rest)) :=
  va_alen hx hb hK hP (fr_lay 19 i) 2 (fr_at (by decide) hi) rfl rfl hdg kk
theorem fr_alen_20 (hx : p.tables.exec = Jvm.exec) (hb : c.code = cc) (hK : va_K D vwCl (fr_tys ca) s) (hP : va_P D vwCl (fo_vx 25 ad (fr_ce ca ad σ)) H) {i : Nat} (hi : i < 1) (hdg : decode cc pc = .ok (.arraylength, 1))
    (kk : W p l e R s m args below meth c H locs cells slots Q (F0 m (pc + 1) ls (.int 16 :: rest))) : W p l e R s m args below meth c H locs cells slots Q (F0 m pc ls (.ref (ad (fr_lay 20 i)) :: rest)) :=
  va_alen hx hb hK hP (fr_lay 20 i) 2 (fr_at (by decide) hi) rfl rfl hdg kk
theorem fr_alen_21 (hx : p.tables.exec = Jvm.exec) (hb : c.code = cc) (hK : va_K D vwCl (fr_tys ca) s) (hP : va_P D vwCl (fo_vx 25 ad (fr_ce ca ad σ)) H) {i : Nat} (hi : i < 1) (hdg : decode cc pc = .ok (.arraylength, 1))
    (kk : W p l e R s m args below meth c H locs cells slots Q (F0 m (pc + 1) ls (.int 16 :: rest))) : W p l e R s m args below meth c H locs cells slots Q (F0 m pc ls (.ref (ad (fr_lay 21 i)) :: rest)) :=
  va_alen hx hb hK hP (fr_lay 21 i) 2 (fr_at (by decide) hi) rfl rfl hdg kk
theorem fr_alen_22 (hx : p.tables.exec = Jvm.exec) (hb : c.code = cc) (hK : va_K D vwCl (fr_tys ca) s) (hP : va_P D vwCl (fo_vx 25 ad (fr_ce ca ad σ)) H) {i : Nat} (hi : i < 1) (hdg : decode cc pc = .ok (.arraylength, 1))
    (kk : W p l e R s m args below meth c H locs cells slots Q (F0 m (pc + 1) ls (.int 16 :: rest))) : W p l e R s m args below meth c H locs cells slots Q (F0 m pc ls (.ref (ad (fr_lay 22 i)) :: rest)) :=
  va_alen hx hb hK hP (fr_lay 22 i) 2 (fr_at (by decide) hi) rfl rfl hdg kk
theorem fr_alen_23 (hx : p.tables.exec = Jvm.exec) (hb : c.code = cc) (hK : va_K D vwCl (fr_tys ca) s) (hP : va_P D vwCl (fo_vx 25 ad (fr_ce ca ad σ)) H) {i : Nat} (hi : i < 1) (hdg : decode cc pc = .ok (.arraylength, 1))
    (kk : W p l e R s m args below meth c H locs cells slots Q (F0 m (pc + 1) ls (.int 8 :: rest))) : W p l e R s m args below meth c H locs cells slots Q (F0 m pc ls (.ref (ad (fr_lay 23 i)) :: rest)) :=
  va_alen hx hb hK hP (fr_lay 23 i) 1 (fr_at (by decide) hi) rfl rfl hdg kk
theorem fr_alen_24 (hx : p.tables.exec = Jvm.exec) (hb : c.code = cc) (hK : va_K D vwCl (fr_tys ca) s) (hP : va_P D vwCl (fo_vx 25 ad (fr_ce ca ad σ)) H) {i : Nat} (hi : i < 1) (hdg : decode cc pc = .ok (.arraylength, 1))
    (kk : W p l e R s m args below meth c H locs cells slots Q (F0 m (pc + 1) ls (.int 8 :: rest))) : W p l e R s m args below meth c H locs cells slots Q (F0 m pc ls (.ref (ad (fr_lay 24 i)) :: rest)) :=
  va_alen hx hb hK hP (fr_lay 24 i) 1 (fr_at (by decide) hi) rfl rfl hdg kk
end FRM
