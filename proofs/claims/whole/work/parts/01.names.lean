-- ===== PART A: goes FIRST, ahead of the names: the tables' words, and 'selects' of the private methods out of them =====
/-- a private method of a class that the tables say can be made, by its rows of tables_1 -/
def lw_okq (q : MethodName × Nat) : Prop := (q.1.cls ≠ "java/lang/invoke/MethodHandle" ∧ q.1.cls ≠ "java/lang/invoke/VarHandle") ∧ Cond.instantiable q.1.cls q.2 ∈ tables_1 ∧ Cond.privateMethod q.1 ∈ tables_1 ∧ Cond.instanceMethod q.1 ∈ tables_1
theorem lw_p0 : lw_okq (⟨"FairOrder", "beginBlock", "()V"⟩, 15) := ⟨⟨by decide +kernel, by decide +kernel⟩, List.mem_of_getElem? (i := 13) (by decide +kernel), List.mem_of_getElem? (i := 201) (by decide +kernel), List.mem_of_getElem? (i := 202) (by decide +kernel)⟩
theorem lw_p1 : lw_okq (⟨"FairOrder", "isAccount", "(I)Z"⟩, 15) := ⟨⟨by decide +kernel, by decide +kernel⟩, List.mem_of_getElem? (i := 13) (by decide +kernel), List.mem_of_getElem? (i := 239) (by decide +kernel), List.mem_of_getElem? (i := 240) (by decide +kernel)⟩
theorem lw_p2 : lw_okq (⟨"FairOrder", "isCall", "(I)Z"⟩, 15) := ⟨⟨by decide +kernel, by decide +kernel⟩, List.mem_of_getElem? (i := 13) (by decide +kernel), List.mem_of_getElem? (i := 260) (by decide +kernel), List.mem_of_getElem? (i := 261) (by decide +kernel)⟩
theorem lw_p3 : lw_okq (⟨"FairOrder", "takeLostDeposits", "()V"⟩, 15) := ⟨⟨by decide +kernel, by decide +kernel⟩, List.mem_of_getElem? (i := 13) (by decide +kernel), List.mem_of_getElem? (i := 278) (by decide +kernel), List.mem_of_getElem? (i := 279) (by decide +kernel)⟩
theorem lw_p4 : lw_okq (⟨"FairOrder$Links", "setBehind", "(I[LFairOrder$Call;I)I"⟩, 1) := ⟨⟨by decide +kernel, by decide +kernel⟩, List.mem_of_getElem? (i := 58) (by decide +kernel), List.mem_of_getElem? (i := 290) (by decide +kernel), List.mem_of_getElem? (i := 291) (by decide +kernel)⟩
theorem lw_p5 : lw_okq (⟨"FairOrder", "openedSet", "()I"⟩, 15) := ⟨⟨by decide +kernel, by decide +kernel⟩, List.mem_of_getElem? (i := 13) (by decide +kernel), List.mem_of_getElem? (i := 308) (by decide +kernel), List.mem_of_getElem? (i := 309) (by decide +kernel)⟩
theorem lw_p6 : lw_okq (⟨"FairOrder$Links", "firstKnot", "(II)I"⟩, 1) := ⟨⟨by decide +kernel, by decide +kernel⟩, List.mem_of_getElem? (i := 58) (by decide +kernel), List.mem_of_getElem? (i := 316) (by decide +kernel), List.mem_of_getElem? (i := 317) (by decide +kernel)⟩
theorem lw_p7 : lw_okq (⟨"FairOrder$Links", "isFree", "(III)Z"⟩, 1) := ⟨⟨by decide +kernel, by decide +kernel⟩, List.mem_of_getElem? (i := 58) (by decide +kernel), List.mem_of_getElem? (i := 320) (by decide +kernel), List.mem_of_getElem? (i := 321) (by decide +kernel)⟩
theorem lw_p8 : lw_okq (⟨"FairOrder$Links", "knotOf", "(II)I"⟩, 1) := ⟨⟨by decide +kernel, by decide +kernel⟩, List.mem_of_getElem? (i := 58) (by decide +kernel), List.mem_of_getElem? (i := 324) (by decide +kernel), List.mem_of_getElem? (i := 325) (by decide +kernel)⟩
theorem lw_p9 : lw_okq (⟨"FairOrder", "addByNumbers", "()V"⟩, 15) := ⟨⟨by decide +kernel, by decide +kernel⟩, List.mem_of_getElem? (i := 13) (by decide +kernel), List.mem_of_getElem? (i := 335) (by decide +kernel), List.mem_of_getElem? (i := 336) (by decide +kernel)⟩
theorem lw_p10 : lw_okq (⟨"FairOrder", "arrange", "(IJ)V"⟩, 15) := ⟨⟨by decide +kernel, by decide +kernel⟩, List.mem_of_getElem? (i := 13) (by decide +kernel), List.mem_of_getElem? (i := 340) (by decide +kernel), List.mem_of_getElem? (i := 341) (by decide +kernel)⟩
theorem lw_p11 : lw_okq (⟨"FairOrder$Row", "swap", "(II)V"⟩, 2) := ⟨⟨by decide +kernel, by decide +kernel⟩, List.mem_of_getElem? (i := 40) (by decide +kernel), List.mem_of_getElem? (i := 350) (by decide +kernel), List.mem_of_getElem? (i := 351) (by decide +kernel)⟩
theorem lw_p12 : lw_okq (⟨"FairOrder$Call", "nodesBefore", "(I)I"⟩, 10) := ⟨⟨by decide +kernel, by decide +kernel⟩, List.mem_of_getElem? (i := 90) (by decide +kernel), List.mem_of_getElem? (i := 361) (by decide +kernel), List.mem_of_getElem? (i := 362) (by decide +kernel)⟩
theorem lw_p13 : lw_okq (⟨"FairOrder", "isOpenedCall", "(I)Z"⟩, 15) := ⟨⟨by decide +kernel, by decide +kernel⟩, List.mem_of_getElem? (i := 13) (by decide +kernel), List.mem_of_getElem? (i := 381) (by decide +kernel), List.mem_of_getElem? (i := 382) (by decide +kernel)⟩
theorem lw_p14 : lw_okq (⟨"FairOrder", "mayPlay", "()Z"⟩, 15) := ⟨⟨by decide +kernel, by decide +kernel⟩, List.mem_of_getElem? (i := 13) (by decide +kernel), List.mem_of_getElem? (i := 394) (by decide +kernel), List.mem_of_getElem? (i := 395) (by decide +kernel)⟩
theorem lw_p15 : lw_okq (⟨"FairOrder$Market", "buyFromPool", "(LFairOrder$Call;)J"⟩, 2) := ⟨⟨by decide +kernel, by decide +kernel⟩, List.mem_of_getElem? (i := 21) (by decide +kernel), List.mem_of_getElem? (i := 402) (by decide +kernel), List.mem_of_getElem? (i := 403) (by decide +kernel)⟩
def lw_privs_1 : List (MethodName × Nat) := [(⟨"FairOrder", "beginBlock", "()V"⟩, 15), (⟨"FairOrder", "isAccount", "(I)Z"⟩, 15), (⟨"FairOrder", "isCall", "(I)Z"⟩, 15), (⟨"FairOrder", "takeLostDeposits", "()V"⟩, 15), (⟨"FairOrder$Links", "setBehind", "(I[LFairOrder$Call;I)I"⟩, 1), (⟨"FairOrder", "openedSet", "()I"⟩, 15), (⟨"FairOrder$Links", "firstKnot", "(II)I"⟩, 1), (⟨"FairOrder$Links", "isFree", "(III)Z"⟩, 1), (⟨"FairOrder$Links", "knotOf", "(II)I"⟩, 1), (⟨"FairOrder", "addByNumbers", "()V"⟩, 15), (⟨"FairOrder", "arrange", "(IJ)V"⟩, 15), (⟨"FairOrder$Row", "swap", "(II)V"⟩, 2), (⟨"FairOrder$Call", "nodesBefore", "(I)I"⟩, 10), (⟨"FairOrder", "isOpenedCall", "(I)Z"⟩, 15), (⟨"FairOrder", "mayPlay", "()Z"⟩, 15), (⟨"FairOrder$Market", "buyFromPool", "(LFairOrder$Call;)J"⟩, 2)]
theorem lw_r1 : ∀ q ∈ lw_privs_1, lw_okq q := List.forall_mem_cons.mpr ⟨lw_p0, List.forall_mem_cons.mpr ⟨lw_p1, List.forall_mem_cons.mpr ⟨lw_p2, List.forall_mem_cons.mpr ⟨lw_p3, List.forall_mem_cons.mpr ⟨lw_p4, List.forall_mem_cons.mpr ⟨lw_p5, List.forall_mem_cons.mpr ⟨lw_p6, List.forall_mem_cons.mpr ⟨lw_p7, List.forall_mem_cons.mpr ⟨lw_p8, List.forall_mem_cons.mpr ⟨lw_p9, List.forall_mem_cons.mpr ⟨lw_p10, List.forall_mem_cons.mpr ⟨lw_p11, List.forall_mem_cons.mpr ⟨lw_p12, List.forall_mem_cons.mpr ⟨lw_p13, List.forall_mem_cons.mpr ⟨lw_p14, List.forall_mem_cons.mpr ⟨lw_p15, fun _ h => absurd h List.not_mem_nil⟩⟩⟩⟩⟩⟩⟩⟩⟩⟩⟩⟩⟩⟩⟩⟩
theorem lw_p16 : lw_okq (⟨"FairOrder$Market", "sellToPool", "(LFairOrder$Call;)J"⟩, 2) := ⟨⟨by decide +kernel, by decide +kernel⟩, List.mem_of_getElem? (i := 21) (by decide +kernel), List.mem_of_getElem? (i := 419) (by decide +kernel), List.mem_of_getElem? (i := 420) (by decide +kernel)⟩
theorem lw_p17 : lw_okq (⟨"FairOrder$Auction", "gather", "(ILFairOrder$Row;[LFairOrder$Call;LFairOrder$Market;)V"⟩, 5) := ⟨⟨by decide +kernel, by decide +kernel⟩, List.mem_of_getElem? (i := 68) (by decide +kernel), List.mem_of_getElem? (i := 433) (by decide +kernel), List.mem_of_getElem? (i := 434) (by decide +kernel)⟩
theorem lw_p18 : lw_okq (⟨"FairOrder$Auction", "joinBuys", "(LFairOrder$Call;ILFairOrder$Market;)Z"⟩, 5) := ⟨⟨by decide +kernel, by decide +kernel⟩, List.mem_of_getElem? (i := 68) (by decide +kernel), List.mem_of_getElem? (i := 438) (by decide +kernel), List.mem_of_getElem? (i := 439) (by decide +kernel)⟩
theorem lw_p19 : lw_okq (⟨"FairOrder$Auction", "joinSells", "(LFairOrder$Call;ILFairOrder$Market;)Z"⟩, 5) := ⟨⟨by decide +kernel, by decide +kernel⟩, List.mem_of_getElem? (i := 68) (by decide +kernel), List.mem_of_getElem? (i := 442) (by decide +kernel), List.mem_of_getElem? (i := 443) (by decide +kernel)⟩
theorem lw_p20 : lw_okq (⟨"FairOrder$Auction", "volume", "()J"⟩, 5) := ⟨⟨by decide +kernel, by decide +kernel⟩, List.mem_of_getElem? (i := 68) (by decide +kernel), List.mem_of_getElem? (i := 446) (by decide +kernel), List.mem_of_getElem? (i := 447) (by decide +kernel)⟩
theorem lw_p21 : lw_okq (⟨"FairOrder", "heldAfterTrial", "(LFairOrder$Row;II)J"⟩, 15) := ⟨⟨by decide +kernel, by decide +kernel⟩, List.mem_of_getElem? (i := 13) (by decide +kernel), List.mem_of_getElem? (i := 490) (by decide +kernel), List.mem_of_getElem? (i := 491) (by decide +kernel)⟩
theorem lw_p22 : lw_okq (⟨"FairOrderModel", "newBlock", "()V"⟩, 37) := ⟨⟨by decide +kernel, by decide +kernel⟩, List.mem_of_getElem? (i := 525) (by decide +kernel), List.mem_of_getElem? (i := 647) (by decide +kernel), List.mem_of_getElem? (i := 648) (by decide +kernel)⟩
theorem lw_p23 : lw_okq (⟨"FairOrderModel", "isCall", "(I)Z"⟩, 37) := ⟨⟨by decide +kernel, by decide +kernel⟩, List.mem_of_getElem? (i := 525) (by decide +kernel), List.mem_of_getElem? (i := 685) (by decide +kernel), List.mem_of_getElem? (i := 686) (by decide +kernel)⟩
theorem lw_p24 : lw_okq (⟨"FairOrderModel", "rankOf", "(II)I"⟩, 37) := ⟨⟨by decide +kernel, by decide +kernel⟩, List.mem_of_getElem? (i := 525) (by decide +kernel), List.mem_of_getElem? (i := 702) (by decide +kernel), List.mem_of_getElem? (i := 703) (by decide +kernel)⟩
theorem lw_p25 : lw_okq (⟨"FairOrderModel", "third", "(I)I"⟩, 37) := ⟨⟨by decide +kernel, by decide +kernel⟩, List.mem_of_getElem? (i := 525) (by decide +kernel), List.mem_of_getElem? (i := 706) (by decide +kernel), List.mem_of_getElem? (i := 707) (by decide +kernel)⟩
theorem lw_p26 : lw_okq (⟨"FairOrderModel", "fair", "()V"⟩, 37) := ⟨⟨by decide +kernel, by decide +kernel⟩, List.mem_of_getElem? (i := 525) (by decide +kernel), List.mem_of_getElem? (i := 711) (by decide +kernel), List.mem_of_getElem? (i := 712) (by decide +kernel)⟩
theorem lw_p27 : lw_okq (⟨"FairOrderModel", "tie", "(I)V"⟩, 37) := ⟨⟨by decide +kernel, by decide +kernel⟩, List.mem_of_getElem? (i := 525) (by decide +kernel), List.mem_of_getElem? (i := 715) (by decide +kernel), List.mem_of_getElem? (i := 716) (by decide +kernel)⟩
theorem lw_p28 : lw_okq (⟨"FairOrderModel", "leads", "(II)Z"⟩, 37) := ⟨⟨by decide +kernel, by decide +kernel⟩, List.mem_of_getElem? (i := 525) (by decide +kernel), List.mem_of_getElem? (i := 719) (by decide +kernel), List.mem_of_getElem? (i := 720) (by decide +kernel)⟩
theorem lw_p29 : lw_okq (⟨"FairOrderModel", "isAhead", "(II)Z"⟩, 37) := ⟨⟨by decide +kernel, by decide +kernel⟩, List.mem_of_getElem? (i := 525) (by decide +kernel), List.mem_of_getElem? (i := 723) (by decide +kernel), List.mem_of_getElem? (i := 724) (by decide +kernel)⟩
theorem lw_p30 : lw_okq (⟨"FairOrderModel", "isHeld", "()Z"⟩, 37) := ⟨⟨by decide +kernel, by decide +kernel⟩, List.mem_of_getElem? (i := 525) (by decide +kernel), List.mem_of_getElem? (i := 727) (by decide +kernel), List.mem_of_getElem? (i := 728) (by decide +kernel)⟩
theorem lw_p31 : lw_okq (⟨"FairOrderModel", "byLot", "(J)V"⟩, 37) := ⟨⟨by decide +kernel, by decide +kernel⟩, List.mem_of_getElem? (i := 525) (by decide +kernel), List.mem_of_getElem? (i := 731) (by decide +kernel), List.mem_of_getElem? (i := 732) (by decide +kernel)⟩
def lw_privs_2 : List (MethodName × Nat) := [(⟨"FairOrder$Market", "sellToPool", "(LFairOrder$Call;)J"⟩, 2), (⟨"FairOrder$Auction", "gather", "(ILFairOrder$Row;[LFairOrder$Call;LFairOrder$Market;)V"⟩, 5), (⟨"FairOrder$Auction", "joinBuys", "(LFairOrder$Call;ILFairOrder$Market;)Z"⟩, 5), (⟨"FairOrder$Auction", "joinSells", "(LFairOrder$Call;ILFairOrder$Market;)Z"⟩, 5), (⟨"FairOrder$Auction", "volume", "()J"⟩, 5), (⟨"FairOrder", "heldAfterTrial", "(LFairOrder$Row;II)J"⟩, 15), (⟨"FairOrderModel", "newBlock", "()V"⟩, 37), (⟨"FairOrderModel", "isCall", "(I)Z"⟩, 37), (⟨"FairOrderModel", "rankOf", "(II)I"⟩, 37), (⟨"FairOrderModel", "third", "(I)I"⟩, 37), (⟨"FairOrderModel", "fair", "()V"⟩, 37), (⟨"FairOrderModel", "tie", "(I)V"⟩, 37), (⟨"FairOrderModel", "leads", "(II)Z"⟩, 37), (⟨"FairOrderModel", "isAhead", "(II)Z"⟩, 37), (⟨"FairOrderModel", "isHeld", "()Z"⟩, 37), (⟨"FairOrderModel", "byLot", "(J)V"⟩, 37)]
theorem lw_r2 : ∀ q ∈ lw_privs_2, lw_okq q := List.forall_mem_cons.mpr ⟨lw_p16, List.forall_mem_cons.mpr ⟨lw_p17, List.forall_mem_cons.mpr ⟨lw_p18, List.forall_mem_cons.mpr ⟨lw_p19, List.forall_mem_cons.mpr ⟨lw_p20, List.forall_mem_cons.mpr ⟨lw_p21, List.forall_mem_cons.mpr ⟨lw_p22, List.forall_mem_cons.mpr ⟨lw_p23, List.forall_mem_cons.mpr ⟨lw_p24, List.forall_mem_cons.mpr ⟨lw_p25, List.forall_mem_cons.mpr ⟨lw_p26, List.forall_mem_cons.mpr ⟨lw_p27, List.forall_mem_cons.mpr ⟨lw_p28, List.forall_mem_cons.mpr ⟨lw_p29, List.forall_mem_cons.mpr ⟨lw_p30, List.forall_mem_cons.mpr ⟨lw_p31, fun _ h => absurd h List.not_mem_nil⟩⟩⟩⟩⟩⟩⟩⟩⟩⟩⟩⟩⟩⟩⟩⟩
theorem lw_p32 : lw_okq (⟨"FairOrderModel", "mayPlay", "()Z"⟩, 37) := ⟨⟨by decide +kernel, by decide +kernel⟩, List.mem_of_getElem? (i := 525) (by decide +kernel), List.mem_of_getElem? (i := 752) (by decide +kernel), List.mem_of_getElem? (i := 753) (by decide +kernel)⟩
theorem lw_p33 : lw_okq (⟨"FairOrderModel", "tryAll", "()V"⟩, 37) := ⟨⟨by decide +kernel, by decide +kernel⟩, List.mem_of_getElem? (i := 525) (by decide +kernel), List.mem_of_getElem? (i := 756) (by decide +kernel), List.mem_of_getElem? (i := 757) (by decide +kernel)⟩
theorem lw_p34 : lw_okq (⟨"FairOrderModel", "tryOne", "(I)V"⟩, 37) := ⟨⟨by decide +kernel, by decide +kernel⟩, List.mem_of_getElem? (i := 525) (by decide +kernel), List.mem_of_getElem? (i := 760) (by decide +kernel), List.mem_of_getElem? (i := 761) (by decide +kernel)⟩
theorem lw_p35 : lw_okq (⟨"FairOrderModel", "begin", "()V"⟩, 37) := ⟨⟨by decide +kernel, by decide +kernel⟩, List.mem_of_getElem? (i := 525) (by decide +kernel), List.mem_of_getElem? (i := 764) (by decide +kernel), List.mem_of_getElem? (i := 765) (by decide +kernel)⟩
theorem lw_p36 : lw_okq (⟨"FairOrderModel", "market", "(I)J"⟩, 37) := ⟨⟨by decide +kernel, by decide +kernel⟩, List.mem_of_getElem? (i := 525) (by decide +kernel), List.mem_of_getElem? (i := 772) (by decide +kernel), List.mem_of_getElem? (i := 773) (by decide +kernel)⟩
def lw_privs_3 : List (MethodName × Nat) := [(⟨"FairOrderModel", "mayPlay", "()Z"⟩, 37), (⟨"FairOrderModel", "tryAll", "()V"⟩, 37), (⟨"FairOrderModel", "tryOne", "(I)V"⟩, 37), (⟨"FairOrderModel", "begin", "()V"⟩, 37), (⟨"FairOrderModel", "market", "(I)J"⟩, 37)]
theorem lw_r3 : ∀ q ∈ lw_privs_3, lw_okq q := List.forall_mem_cons.mpr ⟨lw_p32, List.forall_mem_cons.mpr ⟨lw_p33, List.forall_mem_cons.mpr ⟨lw_p34, List.forall_mem_cons.mpr ⟨lw_p35, List.forall_mem_cons.mpr ⟨lw_p36, fun _ h => absurd h List.not_mem_nil⟩⟩⟩⟩⟩
def lw_privs : List (MethodName × Nat) := lw_privs_1 ++ (lw_privs_2 ++ (lw_privs_3))
def lw_tbl : List Cond := k2_sels lw_privs ++ tables_1
theorem lw_privs_ok : ∀ q ∈ lw_privs, lw_okq q := by
  show ∀ q ∈ lw_privs_1 ++ (lw_privs_2 ++ (lw_privs_3)), lw_okq q
  exact List.forall_mem_append.mpr ⟨lw_r1, List.forall_mem_append.mpr ⟨lw_r2, lw_r3⟩⟩
/-- the words that every method of the system takes: those of the tables that a call keeps -/
def fo_T : List Cond := lw_tbl.filter goodWord
theorem fo_tb (i : Nat) {w : Cond} (h : tables_1[i]? = some w) (g : goodWord w = true) : w ∈ fo_T := List.mem_filter.mpr ⟨List.mem_append_right _ (List.mem_of_getElem? h), g⟩
theorem fo_ts (i : Nat) {w : Cond} (h : (k2_sels lw_privs)[i]? = some w) (g : goodWord w = true) : w ∈ fo_T := List.mem_filter.mpr ⟨List.mem_append_left _ (List.mem_of_getElem? h), g⟩
theorem fo_good {w : Cond} (h : w ∈ fo_T) : GoodIn fo_T (w :: fo_T) := fun v hv =>
  have hm : v ∈ fo_T := (List.mem_cons.mp hv).elim (fun q => q ▸ h) (fun q => q)
  ⟨hm, good_of_word (List.mem_filter.mp hm).2⟩
def RX0 : String := "FairOrder"
def TX0 : u_T := fun k => match k with
  | 0 => ("FairOrder", "market", "LFairOrder$Market;", true)
  | 1 => ("FairOrder", "trial", "LFairOrder$Market;", true)
  | 2 => ("FairOrder", "calls", "[LFairOrder$Call;", true)
  | 3 => ("FairOrder", "row", "LFairOrder$Row;", true)
  | 4 => ("FairOrder", "movedRow", "LFairOrder$Row;", true)
  | 5 => ("FairOrder", "keys", "[I", true)
  | 6 => ("FairOrder", "links", "LFairOrder$Links;", true)
  | 7 => ("FairOrder", "auction", "LFairOrder$Auction;", true)
  | 8 => ("FairOrder", "accounts", "I", false)
  | 9 => ("FairOrder", "size", "I", false)
  | 10 => ("FairOrder", "phase", "I", false)
  | 11 => ("FairOrder", "endedBlocks", "I", false)
  | 12 => ("FairOrder", "pot", "J", false)
  | 13 => ("FairOrder", "ordered", "Z", false)
  | _ => ("FairOrder", "played", "Z", false)
def tyX0 : Nat → FieldType := fun k => match k with
  | 0 => .object "FairOrder$Market"
  | 1 => .object "FairOrder$Market"
  | 2 => .array (.object "FairOrder$Call")
  | 3 => .object "FairOrder$Row"
  | 4 => .object "FairOrder$Row"
  | 5 => .array .int
  | 6 => .object "FairOrder$Links"
  | 7 => .object "FairOrder$Auction"
  | 8 => .int
  | 9 => .int
  | 10 => .int
  | 11 => .int
  | 12 => .long
  | 13 => .boolean
  | _ => .boolean
theorem nmX0 : ∀ a, a < 15 → ∀ b, b < 15 → a ≠ b → (TX0 a).2.1 ≠ (TX0 b).2.1 := by decide +kernel
theorem tyX0_ok : ∀ k, k < 15 → parseFieldDescriptor (TX0 k).2.2.1 = some (tyX0 k) := by decide +kernel
theorem fo_in0 : ∀ w ∈ u_ws RX0 TX0 15, w ∈ fo_T := fun w h => List.mem_filter.mpr ⟨(show ∀ w ∈ u_ws RX0 TX0 15, w ∈ lw_tbl by decide +kernel) w h, (show ∀ w ∈ u_ws RX0 TX0 15, goodWord w = true by decide +kernel) w h⟩
def RX1 : String := "FairOrder$Call"
def TX1 : u_T := fun k => match k with
  | 0 => ("FairOrder$Call", "times", "[I", true)
  | 1 => ("FairOrder$Call", "account", "I", false)
  | 2 => ("FairOrder$Call", "deposit", "J", false)
  | 3 => ("FairOrder$Call", "seal", "J", false)
  | 4 => ("FairOrder$Call", "opened", "Z", false)
  | 5 => ("FairOrder$Call", "side", "I", false)
  | 6 => ("FairOrder$Call", "price", "I", false)
  | 7 => ("FairOrder$Call", "amount", "I", false)
  | 8 => ("FairOrder$Call", "doneAmount", "I", false)
  | _ => ("FairOrder$Call", "passedMoney", "J", false)
def tyX1 : Nat → FieldType := fun k => match k with
  | 0 => .array .int
  | 1 => .int
  | 2 => .long
  | 3 => .long
  | 4 => .boolean
  | 5 => .int
  | 6 => .int
  | 7 => .int
  | 8 => .int
  | _ => .long
theorem nmX1 : ∀ a, a < 10 → ∀ b, b < 10 → a ≠ b → (TX1 a).2.1 ≠ (TX1 b).2.1 := by decide +kernel
theorem tyX1_ok : ∀ k, k < 10 → parseFieldDescriptor (TX1 k).2.2.1 = some (tyX1 k) := by decide +kernel
theorem fo_in1 : ∀ w ∈ u_ws RX1 TX1 10, w ∈ fo_T := fun w h => List.mem_filter.mpr ⟨(show ∀ w ∈ u_ws RX1 TX1 10, w ∈ lw_tbl by decide +kernel) w h, (show ∀ w ∈ u_ws RX1 TX1 10, goodWord w = true by decide +kernel) w h⟩
def RX2 : String := "FairOrder$Market"
def TX2 : u_T := fun k => match k with
  | 0 => ("FairOrder$Market", "money", "[J", true)
  | _ => ("FairOrder$Market", "goods", "[J", true)
def tyX2 : Nat → FieldType := fun k => match k with
  | 0 => .array .long
  | _ => .array .long
theorem nmX2 : ∀ a, a < 2 → ∀ b, b < 2 → a ≠ b → (TX2 a).2.1 ≠ (TX2 b).2.1 := by decide +kernel
theorem tyX2_ok : ∀ k, k < 2 → parseFieldDescriptor (TX2 k).2.2.1 = some (tyX2 k) := by decide +kernel
theorem fo_in2 : ∀ w ∈ u_ws RX2 TX2 2, w ∈ fo_T := fun w h => List.mem_filter.mpr ⟨(show ∀ w ∈ u_ws RX2 TX2 2, w ∈ lw_tbl by decide +kernel) w h, (show ∀ w ∈ u_ws RX2 TX2 2, goodWord w = true by decide +kernel) w h⟩
def RX3 : String := "FairOrder$Row"
def TX3 : u_T := fun k => match k with
  | 0 => ("FairOrder$Row", "numbers", "[I", true)
  | _ => ("FairOrder$Row", "length", "I", false)
def tyX3 : Nat → FieldType := fun k => match k with
  | 0 => .array .int
  | _ => .int
theorem nmX3 : ∀ a, a < 2 → ∀ b, b < 2 → a ≠ b → (TX3 a).2.1 ≠ (TX3 b).2.1 := by decide +kernel
theorem tyX3_ok : ∀ k, k < 2 → parseFieldDescriptor (TX3 k).2.2.1 = some (tyX3 k) := by decide +kernel
theorem fo_in3 : ∀ w ∈ u_ws RX3 TX3 2, w ∈ fo_T := fun w h => List.mem_filter.mpr ⟨(show ∀ w ∈ u_ws RX3 TX3 2, w ∈ lw_tbl by decide +kernel) w h, (show ∀ w ∈ u_ws RX3 TX3 2, goodWord w = true by decide +kernel) w h⟩
def RX4 : String := "FairOrder$Links"
def TX4 : u_T := fun k => match k with
  | _ => ("FairOrder$Links", "reached", "[I", true)
def tyX4 : Nat → FieldType := fun k => match k with
  | _ => .array .int
theorem nmX4 : ∀ a, a < 1 → ∀ b, b < 1 → a ≠ b → (TX4 a).2.1 ≠ (TX4 b).2.1 := by decide +kernel
theorem tyX4_ok : ∀ k, k < 1 → parseFieldDescriptor (TX4 k).2.2.1 = some (tyX4 k) := by decide +kernel
theorem fo_in4 : ∀ w ∈ u_ws RX4 TX4 1, w ∈ fo_T := fun w h => List.mem_filter.mpr ⟨(show ∀ w ∈ u_ws RX4 TX4 1, w ∈ lw_tbl by decide +kernel) w h, (show ∀ w ∈ u_ws RX4 TX4 1, goodWord w = true by decide +kernel) w h⟩
def RX5 : String := "FairOrder$Auction"
def TX5 : u_T := fun k => match k with
  | 0 => ("FairOrder$Auction", "takesPart", "[Z", true)
  | 1 => ("FairOrder$Auction", "bought", "[J", true)
  | 2 => ("FairOrder$Auction", "sold", "[J", true)
  | 3 => ("FairOrder$Auction", "demand", "J", false)
  | _ => ("FairOrder$Auction", "supply", "J", false)
def tyX5 : Nat → FieldType := fun k => match k with
  | 0 => .array .boolean
  | 1 => .array .long
  | 2 => .array .long
  | 3 => .long
  | _ => .long
theorem nmX5 : ∀ a, a < 5 → ∀ b, b < 5 → a ≠ b → (TX5 a).2.1 ≠ (TX5 b).2.1 := by decide +kernel
theorem tyX5_ok : ∀ k, k < 5 → parseFieldDescriptor (TX5 k).2.2.1 = some (tyX5 k) := by decide +kernel
theorem fo_in5 : ∀ w ∈ u_ws RX5 TX5 5, w ∈ fo_T := fun w h => List.mem_filter.mpr ⟨(show ∀ w ∈ u_ws RX5 TX5 5, w ∈ lw_tbl by decide +kernel) w h, (show ∀ w ∈ u_ws RX5 TX5 5, goodWord w = true by decide +kernel) w h⟩
def RX6 : String := "FairOrderModel"
def TX6 : u_T := fun k => match k with
  | 0 => ("FairOrderModel", "accounts", "I", false)
  | 1 => ("FairOrderModel", "money", "[J", true)
  | 2 => ("FairOrderModel", "goods", "[J", true)
  | 3 => ("FairOrderModel", "poolMoney", "J", false)
  | 4 => ("FairOrderModel", "poolGoods", "J", false)
  | 5 => ("FairOrderModel", "pot", "J", false)
  | 6 => ("FairOrderModel", "phase", "I", false)
  | 7 => ("FairOrderModel", "blocks", "I", false)
  | 8 => ("FairOrderModel", "calls", "I", false)
  | 9 => ("FairOrderModel", "owner", "[I", true)
  | 10 => ("FairOrderModel", "deposits", "[J", true)
  | 11 => ("FairOrderModel", "seals", "[J", true)
  | 12 => ("FairOrderModel", "opened", "[Z", true)
  | 13 => ("FairOrderModel", "side", "[I", true)
  | 14 => ("FairOrderModel", "price", "[I", true)
  | 15 => ("FairOrderModel", "amount", "[I", true)
  | 16 => ("FairOrderModel", "times", "[I", true)
  | 17 => ("FairOrderModel", "ordered", "I", false)
  | 18 => ("FairOrderModel", "row", "[I", true)
  | 19 => ("FairOrderModel", "played", "Z", false)
  | 20 => ("FairOrderModel", "done", "[I", true)
  | 21 => ("FairOrderModel", "passed", "[J", true)
  | 22 => ("FairOrderModel", "tried", "[I", true)
  | 23 => ("FairOrderModel", "triedMoney", "[J", true)
  | 24 => ("FairOrderModel", "triedGoods", "[J", true)
  | 25 => ("FairOrderModel", "triedPoolMoney", "J", false)
  | 26 => ("FairOrderModel", "triedPoolGoods", "J", false)
  | 27 => ("FairOrderModel", "triedDone", "[I", true)
  | 28 => ("FairOrderModel", "triedPassed", "[J", true)
  | 29 => ("FairOrderModel", "met", "[Z", true)
  | 30 => ("FairOrderModel", "left", "[Z", true)
  | 31 => ("FairOrderModel", "knot", "[Z", true)
  | 32 => ("FairOrderModel", "takes", "[Z", true)
  | 33 => ("FairOrderModel", "buys", "[J", true)
  | 34 => ("FairOrderModel", "sells", "[J", true)
  | 35 => ("FairOrderModel", "bought", "J", false)
  | _ => ("FairOrderModel", "sold", "J", false)
def tyX6 : Nat → FieldType := fun k => match k with
  | 0 => .int
  | 1 => .array .long
  | 2 => .array .long
  | 3 => .long
  | 4 => .long
  | 5 => .long
  | 6 => .int
  | 7 => .int
  | 8 => .int
  | 9 => .array .int
  | 10 => .array .long
  | 11 => .array .long
  | 12 => .array .boolean
  | 13 => .array .int
  | 14 => .array .int
  | 15 => .array .int
  | 16 => .array .int
  | 17 => .int
  | 18 => .array .int
  | 19 => .boolean
  | 20 => .array .int
  | 21 => .array .long
  | 22 => .array .int
  | 23 => .array .long
  | 24 => .array .long
  | 25 => .long
  | 26 => .long
  | 27 => .array .int
  | 28 => .array .long
  | 29 => .array .boolean
  | 30 => .array .boolean
  | 31 => .array .boolean
  | 32 => .array .boolean
  | 33 => .array .long
  | 34 => .array .long
  | 35 => .long
  | _ => .long
theorem nmX6 : ∀ a, a < 37 → ∀ b, b < 37 → a ≠ b → (TX6 a).2.1 ≠ (TX6 b).2.1 := by decide +kernel
theorem tyX6_ok : ∀ k, k < 37 → parseFieldDescriptor (TX6 k).2.2.1 = some (tyX6 k) := by decide +kernel
theorem fo_in6 : ∀ w ∈ u_ws RX6 TX6 37, w ∈ fo_T := fun w h => List.mem_filter.mpr ⟨(show ∀ w ∈ u_ws RX6 TX6 37, w ∈ lw_tbl by decide +kernel) w h, (show ∀ w ∈ u_ws RX6 TX6 37, goodWord w = true by decide +kernel) w h⟩
def RX7 : String := "java/lang/Integer"
def RX8 : String := "java/util/Arrays"
def RX9 : String := "FairOrderLaw"
abbrev vwCl : List vw_C := [(RX0, TX0, 15), (RX1, TX1, 10), (RX2, TX2, 2), (RX3, TX3, 2), (RX4, TX4, 1), (RX5, TX5, 5), (RX6, TX6, 37)]
abbrev cX0_init : ByteArray := prog_1_method_1_code
def yX0_init : MethodName := ⟨RX0, "<init>", "()V"⟩
abbrev cX0_clear : ByteArray := prog_1_method_2_code
def yX0_clear : MethodName := ⟨RX0, "clear", "()I"⟩
abbrev cX0_account : ByteArray := prog_1_method_3_code
def yX0_account : MethodName := ⟨RX0, "account", "(JJ)I"⟩
abbrev cX0_pool : ByteArray := prog_1_method_4_code
def yX0_pool : MethodName := ⟨RX0, "pool", "(JJ)I"⟩
abbrev cX0_seal : ByteArray := prog_1_method_5_code
def yX0_seal : MethodName := ⟨RX0, "seal", "(IIII)J"⟩
abbrev cX0_commit : ByteArray := prog_1_method_6_code
def yX0_commit : MethodName := ⟨RX0, "commit", "(IJJ)I"⟩
abbrev cX0_hear : ByteArray := prog_1_method_7_code
def yX0_hear : MethodName := ⟨RX0, "hear", "(III)I"⟩
abbrev cX0_open : ByteArray := prog_1_method_8_code
def yX0_open : MethodName := ⟨RX0, "open", "(IIIII)I"⟩
abbrev cX0_next : ByteArray := prog_1_method_9_code
def yX0_next : MethodName := ⟨RX0, "next", "()I"⟩
abbrev cX0_order : ByteArray := prog_1_method_10_code
def yX0_order : MethodName := ⟨RX0, "order", "(IJ)I"⟩
abbrev cX0_at : ByteArray := prog_1_method_11_code
def yX0_at : MethodName := ⟨RX0, "at", "(I)I"⟩
abbrev cX0_linked : ByteArray := prog_1_method_12_code
def yX0_linked : MethodName := ⟨RX0, "linked", "(II)I"⟩
abbrev cX0_heard : ByteArray := prog_1_method_13_code
def yX0_heard : MethodName := ⟨RX0, "heard", "(I)I"⟩
abbrev cX0_play : ByteArray := prog_1_method_14_code
def yX0_play : MethodName := ⟨RX0, "play", "()I"⟩
abbrev cX0_batch : ByteArray := prog_1_method_15_code
def yX0_batch : MethodName := ⟨RX0, "batch", "()I"⟩
abbrev cX0_done : ByteArray := prog_1_method_16_code
def yX0_done : MethodName := ⟨RX0, "done", "(I)I"⟩
abbrev cX0_passed : ByteArray := prog_1_method_17_code
def yX0_passed : MethodName := ⟨RX0, "passed", "(I)J"⟩
abbrev cX0_gain : ByteArray := prog_1_method_18_code
def yX0_gain : MethodName := ⟨RX0, "gain", "(III)J"⟩
abbrev cX0_has : ByteArray := prog_1_method_19_code
def yX0_has : MethodName := ⟨RX0, "has", "(II)J"⟩
abbrev cX0_of : ByteArray := prog_1_method_20_code
def yX0_of : MethodName := ⟨RX0, "of", "(II)I"⟩
abbrev cX0_count : ByteArray := prog_1_method_21_code
def yX0_count : MethodName := ⟨RX0, "count", "(I)I"⟩
abbrev cX0_mayBeginWith : ByteArray := prog_1_method_22_code
def yX0_mayBeginWith : MethodName := ⟨RX0, "mayBeginWith", "(J)Z"⟩
abbrev cX0_areTerms : ByteArray := prog_1_method_23_code
def yX0_areTerms : MethodName := ⟨RX0, "areTerms", "(III)Z"⟩
abbrev cX0_isHolding : ByteArray := prog_1_method_24_code
def yX0_isHolding : MethodName := ⟨RX0, "isHolding", "(I)Z"⟩
abbrev cX0_sealOf : ByteArray := prog_1_method_25_code
def yX0_sealOf : MethodName := ⟨RX0, "sealOf", "(IIII)J"⟩
abbrev cX0_isAccount : ByteArray := prog_1_method_26_code
def yX0_isAccount : MethodName := ⟨RX0, "isAccount", "(I)Z"⟩
abbrev cX0_isCall : ByteArray := prog_1_method_27_code
def yX0_isCall : MethodName := ⟨RX0, "isCall", "(I)Z"⟩
abbrev cX0_isOpenedCall : ByteArray := prog_1_method_28_code
def yX0_isOpenedCall : MethodName := ⟨RX0, "isOpenedCall", "(I)Z"⟩
abbrev cX0_mayPlay : ByteArray := prog_1_method_29_code
def yX0_mayPlay : MethodName := ⟨RX0, "mayPlay", "()Z"⟩
abbrev cX0_beginBlock : ByteArray := prog_1_method_30_code
def yX0_beginBlock : MethodName := ⟨RX0, "beginBlock", "()V"⟩
abbrev cX0_takeLostDeposits : ByteArray := prog_1_method_31_code
def yX0_takeLostDeposits : MethodName := ⟨RX0, "takeLostDeposits", "()V"⟩
abbrev cX0_openedSet : ByteArray := prog_1_method_32_code
def yX0_openedSet : MethodName := ⟨RX0, "openedSet", "()I"⟩
abbrev cX0_addByNumbers : ByteArray := prog_1_method_33_code
def yX0_addByNumbers : MethodName := ⟨RX0, "addByNumbers", "()V"⟩
abbrev cX0_arrange : ByteArray := prog_1_method_34_code
def yX0_arrange : MethodName := ⟨RX0, "arrange", "(IJ)V"⟩
abbrev cX0_keyOf : ByteArray := prog_1_method_35_code
def yX0_keyOf : MethodName := ⟨RX0, "keyOf", "(LFairOrder$Call;I)I"⟩
abbrev cX0_heldAfterTrial : ByteArray := prog_1_method_36_code
def yX0_heldAfterTrial : MethodName := ⟨RX0, "heldAfterTrial", "(LFairOrder$Row;II)J"⟩
abbrev cX6_init : ByteArray := prog_8_method_1_code
def yX6_init : MethodName := ⟨RX6, "<init>", "()V"⟩
abbrev cX6_in : ByteArray := prog_8_method_3_code
def yX6_in : MethodName := ⟨RX6, "in", "(JJJ)Z"⟩
abbrev cX6_isCall : ByteArray := prog_8_method_4_code
def yX6_isCall : MethodName := ⟨RX6, "isCall", "(I)Z"⟩
abbrev cX6_newBlock : ByteArray := prog_8_method_5_code
def yX6_newBlock : MethodName := ⟨RX6, "newBlock", "()V"⟩
abbrev cX6_clear : ByteArray := prog_8_method_6_code
def yX6_clear : MethodName := ⟨RX6, "clear", "()I"⟩
abbrev cX6_account : ByteArray := prog_8_method_7_code
def yX6_account : MethodName := ⟨RX6, "account", "(JJ)I"⟩
abbrev cX6_pool : ByteArray := prog_8_method_8_code
def yX6_pool : MethodName := ⟨RX6, "pool", "(JJ)I"⟩
abbrev cX6_isOffer : ByteArray := prog_8_method_9_code
def yX6_isOffer : MethodName := ⟨RX6, "isOffer", "(III)Z"⟩
abbrev cX6_seal : ByteArray := prog_8_method_10_code
def yX6_seal : MethodName := ⟨RX6, "seal", "(IIII)J"⟩
abbrev cX6_commit : ByteArray := prog_8_method_11_code
def yX6_commit : MethodName := ⟨RX6, "commit", "(IJJ)I"⟩
abbrev cX6_hear : ByteArray := prog_8_method_12_code
def yX6_hear : MethodName := ⟨RX6, "hear", "(III)I"⟩
abbrev cX6_open : ByteArray := prog_8_method_13_code
def yX6_open : MethodName := ⟨RX6, "open", "(IIIII)I"⟩
abbrev cX6_next : ByteArray := prog_8_method_14_code
def yX6_next : MethodName := ⟨RX6, "next", "()I"⟩
abbrev cX6_third : ByteArray := prog_8_method_15_code
def yX6_third : MethodName := ⟨RX6, "third", "(I)I"⟩
abbrev cX6_isAhead : ByteArray := prog_8_method_16_code
def yX6_isAhead : MethodName := ⟨RX6, "isAhead", "(II)Z"⟩
abbrev cX6_leads : ByteArray := prog_8_method_17_code
def yX6_leads : MethodName := ⟨RX6, "leads", "(II)Z"⟩
abbrev cX6_tie : ByteArray := prog_8_method_18_code
def yX6_tie : MethodName := ⟨RX6, "tie", "(I)V"⟩
abbrev cX6_isHeld : ByteArray := prog_8_method_19_code
def yX6_isHeld : MethodName := ⟨RX6, "isHeld", "()Z"⟩
abbrev cX6_fair : ByteArray := prog_8_method_20_code
def yX6_fair : MethodName := ⟨RX6, "fair", "()V"⟩
abbrev cX6_byLot : ByteArray := prog_8_method_21_code
def yX6_byLot : MethodName := ⟨RX6, "byLot", "(J)V"⟩
abbrev cX6_rankOf : ByteArray := prog_8_method_22_code
def yX6_rankOf : MethodName := ⟨RX6, "rankOf", "(II)I"⟩
abbrev cX6_order : ByteArray := prog_8_method_23_code
def yX6_order : MethodName := ⟨RX6, "order", "(IJ)I"⟩
abbrev cX6_at : ByteArray := prog_8_method_24_code
def yX6_at : MethodName := ⟨RX6, "at", "(I)I"⟩
abbrev cX6_linked : ByteArray := prog_8_method_25_code
def yX6_linked : MethodName := ⟨RX6, "linked", "(II)I"⟩
abbrev cX6_heard : ByteArray := prog_8_method_26_code
def yX6_heard : MethodName := ⟨RX6, "heard", "(I)I"⟩
abbrev cX6_mayPlay : ByteArray := prog_8_method_27_code
def yX6_mayPlay : MethodName := ⟨RX6, "mayPlay", "()Z"⟩
abbrev cX6_tryOne : ByteArray := prog_8_method_28_code
def yX6_tryOne : MethodName := ⟨RX6, "tryOne", "(I)V"⟩
abbrev cX6_tryAll : ByteArray := prog_8_method_29_code
def yX6_tryAll : MethodName := ⟨RX6, "tryAll", "()V"⟩
abbrev cX6_begin : ByteArray := prog_8_method_30_code
def yX6_begin : MethodName := ⟨RX6, "begin", "()V"⟩
abbrev cX6_play : ByteArray := prog_8_method_31_code
def yX6_play : MethodName := ⟨RX6, "play", "()I"⟩
abbrev cX6_market : ByteArray := prog_8_method_32_code
def yX6_market : MethodName := ⟨RX6, "market", "(I)J"⟩
abbrev cX6_batch : ByteArray := prog_8_method_33_code
def yX6_batch : MethodName := ⟨RX6, "batch", "()I"⟩
abbrev cX6_done : ByteArray := prog_8_method_34_code
def yX6_done : MethodName := ⟨RX6, "done", "(I)I"⟩
abbrev cX6_passed : ByteArray := prog_8_method_35_code
def yX6_passed : MethodName := ⟨RX6, "passed", "(I)J"⟩
abbrev cX6_gain : ByteArray := prog_8_method_36_code
def yX6_gain : MethodName := ⟨RX6, "gain", "(III)J"⟩
abbrev cX6_has : ByteArray := prog_8_method_37_code
def yX6_has : MethodName := ⟨RX6, "has", "(II)J"⟩
abbrev cX6_of : ByteArray := prog_8_method_38_code
def yX6_of : MethodName := ⟨RX6, "of", "(II)I"⟩
abbrev cX6_count : ByteArray := prog_8_method_39_code
def yX6_count : MethodName := ⟨RX6, "count", "(I)I"⟩
abbrev cX5_init : ByteArray := prog_2_method_1_code
def yX5_init : MethodName := ⟨RX5, "<init>", "()V"⟩
abbrev cX5_findPrice : ByteArray := prog_2_method_2_code
def yX5_findPrice : MethodName := ⟨RX5, "findPrice", "(LFairOrder$Row;[LFairOrder$Call;LFairOrder$Market;)I"⟩
abbrev cX5_settle : ByteArray := prog_2_method_3_code
def yX5_settle : MethodName := ⟨RX5, "settle", "(ILFairOrder$Row;[LFairOrder$Call;LFairOrder$Market;)V"⟩
abbrev cX5_volume : ByteArray := prog_2_method_4_code
def yX5_volume : MethodName := ⟨RX5, "volume", "()J"⟩
abbrev cX5_gather : ByteArray := prog_2_method_5_code
def yX5_gather : MethodName := ⟨RX5, "gather", "(ILFairOrder$Row;[LFairOrder$Call;LFairOrder$Market;)V"⟩
abbrev cX5_joinBuys : ByteArray := prog_2_method_6_code
def yX5_joinBuys : MethodName := ⟨RX5, "joinBuys", "(LFairOrder$Call;ILFairOrder$Market;)Z"⟩
abbrev cX5_joinSells : ByteArray := prog_2_method_7_code
def yX5_joinSells : MethodName := ⟨RX5, "joinSells", "(LFairOrder$Call;ILFairOrder$Market;)Z"⟩
abbrev cX5_fill : ByteArray := prog_2_method_8_code
def yX5_fill : MethodName := ⟨RX5, "fill", "(LFairOrder$Call;JILFairOrder$Market;)J"⟩
abbrev cX1_init : ByteArray := prog_3_method_1_code
def yX1_init : MethodName := ⟨RX1, "<init>", "()V"⟩
abbrev cX1_begin : ByteArray := prog_3_method_2_code
def yX1_begin : MethodName := ⟨RX1, "begin", "(IJJ)V"⟩
abbrev cX1_tell : ByteArray := prog_3_method_3_code
def yX1_tell : MethodName := ⟨RX1, "tell", "(III)V"⟩
abbrev cX1_note : ByteArray := prog_3_method_4_code
def yX1_note : MethodName := ⟨RX1, "note", "(IJ)V"⟩
abbrev cX1_term : ByteArray := prog_3_method_5_code
def yX1_term : MethodName := ⟨RX1, "term", "(I)I"⟩
abbrev cX1_limit : ByteArray := prog_3_method_6_code
def yX1_limit : MethodName := ⟨RX1, "limit", "()J"⟩
abbrev cX1_thirdTime : ByteArray := prog_3_method_7_code
def yX1_thirdTime : MethodName := ⟨RX1, "thirdTime", "()I"⟩
abbrev cX1_nodesBefore : ByteArray := prog_3_method_8_code
def yX1_nodesBefore : MethodName := ⟨RX1, "nodesBefore", "(I)I"⟩
abbrev cX1_isAheadOf : ByteArray := prog_3_method_9_code
def yX1_isAheadOf : MethodName := ⟨RX1, "isAheadOf", "(LFairOrder$Call;)Z"⟩
abbrev cX4_init : ByteArray := prog_4_method_1_code
def yX4_init : MethodName := ⟨RX4, "<init>", "()V"⟩
abbrev cX4_find : ByteArray := prog_4_method_2_code
def yX4_find : MethodName := ⟨RX4, "find", "([LFairOrder$Call;I)V"⟩
abbrev cX4_setBehind : ByteArray := prog_4_method_3_code
def yX4_setBehind : MethodName := ⟨RX4, "setBehind", "(I[LFairOrder$Call;I)I"⟩
abbrev cX4_leads : ByteArray := prog_4_method_4_code
def yX4_leads : MethodName := ⟨RX4, "leads", "(II)Z"⟩
abbrev cX4_addKnots : ByteArray := prog_4_method_5_code
def yX4_addKnots : MethodName := ⟨RX4, "addKnots", "(LFairOrder$Row;II)V"⟩
abbrev cX4_firstKnot : ByteArray := prog_4_method_6_code
def yX4_firstKnot : MethodName := ⟨RX4, "firstKnot", "(II)I"⟩
abbrev cX4_isFree : ByteArray := prog_4_method_7_code
def yX4_isFree : MethodName := ⟨RX4, "isFree", "(III)Z"⟩
abbrev cX4_knotOf : ByteArray := prog_4_method_8_code
def yX4_knotOf : MethodName := ⟨RX4, "knotOf", "(II)I"⟩
abbrev cX4_addSet : ByteArray := prog_4_method_9_code
def yX4_addSet : MethodName := ⟨RX4, "addSet", "(LFairOrder$Row;II)V"⟩
abbrev cX4_contains : ByteArray := prog_4_method_10_code
def yX4_contains : MethodName := ⟨RX4, "contains", "(II)Z"⟩
abbrev cX2_init : ByteArray := prog_5_method_1_code
def yX2_init : MethodName := ⟨RX2, "<init>", "()V"⟩
abbrev cX2_makeEmpty : ByteArray := prog_5_method_2_code
def yX2_makeEmpty : MethodName := ⟨RX2, "makeEmpty", "()V"⟩
abbrev cX2_put : ByteArray := prog_5_method_3_code
def yX2_put : MethodName := ⟨RX2, "put", "(IJJ)V"⟩
abbrev cX2_copyFrom : ByteArray := prog_5_method_4_code
def yX2_copyFrom : MethodName := ⟨RX2, "copyFrom", "(LFairOrder$Market;)V"⟩
abbrev cX2_held : ByteArray := prog_5_method_5_code
def yX2_held : MethodName := ⟨RX2, "held", "(II)J"⟩
abbrev cX2_trade : ByteArray := prog_5_method_6_code
def yX2_trade : MethodName := ⟨RX2, "trade", "(LFairOrder$Call;)J"⟩
abbrev cX2_buyFromPool : ByteArray := prog_5_method_7_code
def yX2_buyFromPool : MethodName := ⟨RX2, "buyFromPool", "(LFairOrder$Call;)J"⟩
abbrev cX2_sellToPool : ByteArray := prog_5_method_8_code
def yX2_sellToPool : MethodName := ⟨RX2, "sellToPool", "(LFairOrder$Call;)J"⟩
abbrev cX2_take : ByteArray := prog_5_method_9_code
def yX2_take : MethodName := ⟨RX2, "take", "(IJJ)V"⟩
abbrev cX2_give : ByteArray := prog_5_method_10_code
def yX2_give : MethodName := ⟨RX2, "give", "(IJJ)V"⟩
abbrev cX3_init : ByteArray := prog_6_method_1_code
def yX3_init : MethodName := ⟨RX3, "<init>", "()V"⟩
abbrev cX3_hasPlace : ByteArray := prog_6_method_2_code
def yX3_hasPlace : MethodName := ⟨RX3, "hasPlace", "(I)Z"⟩
abbrev cX3_add : ByteArray := prog_6_method_3_code
def yX3_add : MethodName := ⟨RX3, "add", "(I)V"⟩
abbrev cX3_copyFrom : ByteArray := prog_6_method_4_code
def yX3_copyFrom : MethodName := ⟨RX3, "copyFrom", "(LFairOrder$Row;)V"⟩
abbrev cX3_sortBy : ByteArray := prog_6_method_5_code
def yX3_sortBy : MethodName := ⟨RX3, "sortBy", "([I)V"⟩
abbrev cX3_shuffle : ByteArray := prog_6_method_6_code
def yX3_shuffle : MethodName := ⟨RX3, "shuffle", "(J)V"⟩
abbrev cX3_move : ByteArray := prog_6_method_7_code
def yX3_move : MethodName := ⟨RX3, "move", "(II)V"⟩
abbrev cX3_swap : ByteArray := prog_6_method_8_code
def yX3_swap : MethodName := ⟨RX3, "swap", "(II)V"⟩
abbrev cX9_law : ByteArray := code
abbrev cX7_bitCount : ByteArray := prog_9_method_49_code
def yX7_bitCount : MethodName := ⟨RX7, "bitCount", "(I)I"⟩
abbrev cX7_compare : ByteArray := prog_9_method_40_code
def yX7_compare : MethodName := ⟨RX7, "compare", "(II)I"⟩
abbrev cX8_fillI : ByteArray := prog_12_method_103_code
def yX8_fillI : MethodName := ⟨RX8, "fill", "([II)V"⟩
abbrev cX8_fillJ : ByteArray := prog_12_method_101_code
def yX8_fillJ : MethodName := ⟨RX8, "fill", "([JJ)V"⟩
