section
-- ===== PART A: goes FIRST, ahead of the names: the tables' words, and 'selects' of the private methods out of them =====
/-- a private method of a class that the tables say can be made, by its rows of tables_1 -/
def lw_okq (q : MethodName × Nat) : Prop := (q.1.cls ≠ "java/lang/invoke/MethodHandle" ∧ q.1.cls ≠ "java/lang/invoke/VarHandle") ∧ Cond.instantiable q.1.cls q.2 ∈ tables_1 ∧ Cond.privateMethod q.1 ∈ tables_1 ∧ Cond.instanceMethod q.1 ∈ tables_1
theorem lw_p0 : lw_okq (⟨"CraneYard", "mostPlaces", "()I"⟩, 12) := ⟨⟨by decide +kernel, by decide +kernel⟩, List.mem_of_getElem? (i := 16) (by decide +kernel), List.mem_of_getElem? (i := 152) (by decide +kernel), List.mem_of_getElem? (i := 153) (by decide +kernel)⟩
theorem lw_p1 : lw_okq (⟨"java/lang/Throwable", "fillInStackTrace", "(I)Ljava/lang/Throwable;"⟩, 6) := ⟨⟨by decide +kernel, by decide +kernel⟩, List.mem_of_getElem? (i := 226) (by decide +kernel), List.mem_of_getElem? (i := 224) (by decide +kernel), List.mem_of_getElem? (i := 225) (by decide +kernel)⟩
theorem lw_p2 : lw_okq (⟨"CraneYard", "requireRoom", "(II)V"⟩, 12) := ⟨⟨by decide +kernel, by decide +kernel⟩, List.mem_of_getElem? (i := 16) (by decide +kernel), List.mem_of_getElem? (i := 280) (by decide +kernel), List.mem_of_getElem? (i := 281) (by decide +kernel)⟩
theorem lw_p3 : lw_okq (⟨"CraneYard", "payWords", "()V"⟩, 12) := ⟨⟨by decide +kernel, by decide +kernel⟩, List.mem_of_getElem? (i := 16) (by decide +kernel), List.mem_of_getElem? (i := 309) (by decide +kernel), List.mem_of_getElem? (i := 310) (by decide +kernel)⟩
theorem lw_p4 : lw_okq (⟨"CraneYard$Words", "isShown", "(I[II)Z"⟩, 5) := ⟨⟨by decide +kernel, by decide +kernel⟩, List.mem_of_getElem? (i := 41) (by decide +kernel), List.mem_of_getElem? (i := 318) (by decide +kernel), List.mem_of_getElem? (i := 319) (by decide +kernel)⟩
theorem lw_p5 : lw_okq (⟨"CraneYard$Words", "isShownFrom", "(II[I)Z"⟩, 5) := ⟨⟨by decide +kernel, by decide +kernel⟩, List.mem_of_getElem? (i := 41) (by decide +kernel), List.mem_of_getElem? (i := 322) (by decide +kernel), List.mem_of_getElem? (i := 323) (by decide +kernel)⟩
theorem lw_p6 : lw_okq (⟨"CraneYard", "requireEmptyCrane", "()V"⟩, 12) := ⟨⟨by decide +kernel, by decide +kernel⟩, List.mem_of_getElem? (i := 16) (by decide +kernel), List.mem_of_getElem? (i := 333) (by decide +kernel), List.mem_of_getElem? (i := 334) (by decide +kernel)⟩
theorem lw_p7 : lw_okq (⟨"CraneYard", "requireFullCrane", "()V"⟩, 12) := ⟨⟨by decide +kernel, by decide +kernel⟩, List.mem_of_getElem? (i := 16) (by decide +kernel), List.mem_of_getElem? (i := 351) (by decide +kernel), List.mem_of_getElem? (i := 352) (by decide +kernel)⟩
theorem lw_p8 : lw_okq (⟨"CraneYard", "requireCrate", "(I)V"⟩, 12) := ⟨⟨by decide +kernel, by decide +kernel⟩, List.mem_of_getElem? (i := 16) (by decide +kernel), List.mem_of_getElem? (i := 365) (by decide +kernel), List.mem_of_getElem? (i := 366) (by decide +kernel)⟩
theorem lw_p9 : lw_okq (⟨"CraneYard", "requireInStack", "(I)V"⟩, 12) := ⟨⟨by decide +kernel, by decide +kernel⟩, List.mem_of_getElem? (i := 16) (by decide +kernel), List.mem_of_getElem? (i := 385) (by decide +kernel), List.mem_of_getElem? (i := 386) (by decide +kernel)⟩
theorem lw_p10 : lw_okq (⟨"CraneYard$Stacks", "targetFor", "(III)I"⟩, 3) := ⟨⟨by decide +kernel, by decide +kernel⟩, List.mem_of_getElem? (i := 24) (by decide +kernel), List.mem_of_getElem? (i := 407) (by decide +kernel), List.mem_of_getElem? (i := 408) (by decide +kernel)⟩
theorem lw_p11 : lw_okq (⟨"CraneYard", "areInStacks", "(I)Z"⟩, 12) := ⟨⟨by decide +kernel, by decide +kernel⟩, List.mem_of_getElem? (i := 16) (by decide +kernel), List.mem_of_getElem? (i := 447) (by decide +kernel), List.mem_of_getElem? (i := 448) (by decide +kernel)⟩
theorem lw_p12 : lw_okq (⟨"CraneYard", "liftsInOrder", "(II)I"⟩, 12) := ⟨⟨by decide +kernel, by decide +kernel⟩, List.mem_of_getElem? (i := 16) (by decide +kernel), List.mem_of_getElem? (i := 464) (by decide +kernel), List.mem_of_getElem? (i := 465) (by decide +kernel)⟩
theorem lw_p13 : lw_okq (⟨"CraneYard$Hauls", "isOpen", "(I)Z"⟩, 8) := ⟨⟨by decide +kernel, by decide +kernel⟩, List.mem_of_getElem? (i := 64) (by decide +kernel), List.mem_of_getElem? (i := 512) (by decide +kernel), List.mem_of_getElem? (i := 513) (by decide +kernel)⟩
theorem lw_p14 : lw_okq (⟨"CraneYard", "requireHaul", "(I)V"⟩, 12) := ⟨⟨by decide +kernel, by decide +kernel⟩, List.mem_of_getElem? (i := 16) (by decide +kernel), List.mem_of_getElem? (i := 537) (by decide +kernel), List.mem_of_getElem? (i := 538) (by decide +kernel)⟩
theorem lw_p15 : lw_okq (⟨"CraneYard", "requireOffered", "(I)V"⟩, 12) := ⟨⟨by decide +kernel, by decide +kernel⟩, List.mem_of_getElem? (i := 16) (by decide +kernel), List.mem_of_getElem? (i := 544) (by decide +kernel), List.mem_of_getElem? (i := 545) (by decide +kernel)⟩
def lw_privs_1 : List (MethodName × Nat) := [(⟨"CraneYard", "mostPlaces", "()I"⟩, 12), (⟨"java/lang/Throwable", "fillInStackTrace", "(I)Ljava/lang/Throwable;"⟩, 6), (⟨"CraneYard", "requireRoom", "(II)V"⟩, 12), (⟨"CraneYard", "payWords", "()V"⟩, 12), (⟨"CraneYard$Words", "isShown", "(I[II)Z"⟩, 5), (⟨"CraneYard$Words", "isShownFrom", "(II[I)Z"⟩, 5), (⟨"CraneYard", "requireEmptyCrane", "()V"⟩, 12), (⟨"CraneYard", "requireFullCrane", "()V"⟩, 12), (⟨"CraneYard", "requireCrate", "(I)V"⟩, 12), (⟨"CraneYard", "requireInStack", "(I)V"⟩, 12), (⟨"CraneYard$Stacks", "targetFor", "(III)I"⟩, 3), (⟨"CraneYard", "areInStacks", "(I)Z"⟩, 12), (⟨"CraneYard", "liftsInOrder", "(II)I"⟩, 12), (⟨"CraneYard$Hauls", "isOpen", "(I)Z"⟩, 8), (⟨"CraneYard", "requireHaul", "(I)V"⟩, 12), (⟨"CraneYard", "requireOffered", "(I)V"⟩, 12)]
theorem lw_r1 : ∀ q ∈ lw_privs_1, lw_okq q := List.forall_mem_cons.mpr ⟨lw_p0, List.forall_mem_cons.mpr ⟨lw_p1, List.forall_mem_cons.mpr ⟨lw_p2, List.forall_mem_cons.mpr ⟨lw_p3, List.forall_mem_cons.mpr ⟨lw_p4, List.forall_mem_cons.mpr ⟨lw_p5, List.forall_mem_cons.mpr ⟨lw_p6, List.forall_mem_cons.mpr ⟨lw_p7, List.forall_mem_cons.mpr ⟨lw_p8, List.forall_mem_cons.mpr ⟨lw_p9, List.forall_mem_cons.mpr ⟨lw_p10, List.forall_mem_cons.mpr ⟨lw_p11, List.forall_mem_cons.mpr ⟨lw_p12, List.forall_mem_cons.mpr ⟨lw_p13, List.forall_mem_cons.mpr ⟨lw_p14, List.forall_mem_cons.mpr ⟨lw_p15, fun _ h => absurd h List.not_mem_nil⟩⟩⟩⟩⟩⟩⟩⟩⟩⟩⟩⟩⟩⟩⟩⟩
theorem lw_p16 : lw_okq (⟨"CraneYard$Hauls", "isPlaceForBid", "(II)Z"⟩, 8) := ⟨⟨by decide +kernel, by decide +kernel⟩, List.mem_of_getElem? (i := 64) (by decide +kernel), List.mem_of_getElem? (i := 554) (by decide +kernel), List.mem_of_getElem? (i := 555) (by decide +kernel)⟩
theorem lw_p17 : lw_okq (⟨"CraneYard", "endDay", "()V"⟩, 12) := ⟨⟨by decide +kernel, by decide +kernel⟩, List.mem_of_getElem? (i := 16) (by decide +kernel), List.mem_of_getElem? (i := 608) (by decide +kernel), List.mem_of_getElem? (i := 609) (by decide +kernel)⟩
theorem lw_p18 : lw_okq (⟨"CraneYardModel", "canPut", "(II)Z"⟩, 23) := ⟨⟨by decide +kernel, by decide +kernel⟩, List.mem_of_getElem? (i := 620) (by decide +kernel), List.mem_of_getElem? (i := 710) (by decide +kernel), List.mem_of_getElem? (i := 711) (by decide +kernel)⟩
theorem lw_p19 : lw_okq (⟨"CraneYardModel", "most", "()I"⟩, 23) := ⟨⟨by decide +kernel, by decide +kernel⟩, List.mem_of_getElem? (i := 620) (by decide +kernel), List.mem_of_getElem? (i := 714) (by decide +kernel), List.mem_of_getElem? (i := 715) (by decide +kernel)⟩
theorem lw_p20 : lw_okq (⟨"CraneYardModel", "goesWell", "(I)Z"⟩, 23) := ⟨⟨by decide +kernel, by decide +kernel⟩, List.mem_of_getElem? (i := 620) (by decide +kernel), List.mem_of_getElem? (i := 718) (by decide +kernel), List.mem_of_getElem? (i := 719) (by decide +kernel)⟩
theorem lw_p21 : lw_okq (⟨"CraneYardModel", "put", "(II)V"⟩, 23) := ⟨⟨by decide +kernel, by decide +kernel⟩, List.mem_of_getElem? (i := 620) (by decide +kernel), List.mem_of_getElem? (i := 722) (by decide +kernel), List.mem_of_getElem? (i := 723) (by decide +kernel)⟩
theorem lw_p22 : lw_okq (⟨"CraneYardModel", "payWords", "()V"⟩, 23) := ⟨⟨by decide +kernel, by decide +kernel⟩, List.mem_of_getElem? (i := 620) (by decide +kernel), List.mem_of_getElem? (i := 726) (by decide +kernel), List.mem_of_getElem? (i := 727) (by decide +kernel)⟩
theorem lw_p23 : lw_okq (⟨"CraneYardModel", "isOnLids", "(II)Z"⟩, 23) := ⟨⟨by decide +kernel, by decide +kernel⟩, List.mem_of_getElem? (i := 620) (by decide +kernel), List.mem_of_getElem? (i := 730) (by decide +kernel), List.mem_of_getElem? (i := 731) (by decide +kernel)⟩
theorem lw_p24 : lw_okq (⟨"CraneYardModel", "topOf", "(I)I"⟩, 23) := ⟨⟨by decide +kernel, by decide +kernel⟩, List.mem_of_getElem? (i := 620) (by decide +kernel), List.mem_of_getElem? (i := 734) (by decide +kernel), List.mem_of_getElem? (i := 735) (by decide +kernel)⟩
theorem lw_p25 : lw_okq (⟨"CraneYardModel", "sizeOf", "(I)I"⟩, 23) := ⟨⟨by decide +kernel, by decide +kernel⟩, List.mem_of_getElem? (i := 620) (by decide +kernel), List.mem_of_getElem? (i := 738) (by decide +kernel), List.mem_of_getElem? (i := 739) (by decide +kernel)⟩
theorem lw_p26 : lw_okq (⟨"CraneYardModel", "copyYard", "()V"⟩, 23) := ⟨⟨by decide +kernel, by decide +kernel⟩, List.mem_of_getElem? (i := 620) (by decide +kernel), List.mem_of_getElem? (i := 754) (by decide +kernel), List.mem_of_getElem? (i := 755) (by decide +kernel)⟩
theorem lw_p27 : lw_okq (⟨"CraneYardModel", "isCrate", "(I)Z"⟩, 23) := ⟨⟨by decide +kernel, by decide +kernel⟩, List.mem_of_getElem? (i := 620) (by decide +kernel), List.mem_of_getElem? (i := 758) (by decide +kernel), List.mem_of_getElem? (i := 759) (by decide +kernel)⟩
theorem lw_p28 : lw_okq (⟨"CraneYardModel", "digOut", "(I)I"⟩, 23) := ⟨⟨by decide +kernel, by decide +kernel⟩, List.mem_of_getElem? (i := 620) (by decide +kernel), List.mem_of_getElem? (i := 762) (by decide +kernel), List.mem_of_getElem? (i := 763) (by decide +kernel)⟩
theorem lw_p29 : lw_okq (⟨"CraneYardModel", "find", "(I)I"⟩, 23) := ⟨⟨by decide +kernel, by decide +kernel⟩, List.mem_of_getElem? (i := 620) (by decide +kernel), List.mem_of_getElem? (i := 766) (by decide +kernel), List.mem_of_getElem? (i := 767) (by decide +kernel)⟩
theorem lw_p30 : lw_okq (⟨"CraneYardModel", "canTry", "(II)Z"⟩, 23) := ⟨⟨by decide +kernel, by decide +kernel⟩, List.mem_of_getElem? (i := 620) (by decide +kernel), List.mem_of_getElem? (i := 770) (by decide +kernel), List.mem_of_getElem? (i := 771) (by decide +kernel)⟩
theorem lw_p31 : lw_okq (⟨"CraneYardModel", "isSet", "(I)Z"⟩, 23) := ⟨⟨by decide +kernel, by decide +kernel⟩, List.mem_of_getElem? (i := 620) (by decide +kernel), List.mem_of_getElem? (i := 798) (by decide +kernel), List.mem_of_getElem? (i := 799) (by decide +kernel)⟩
def lw_privs_2 : List (MethodName × Nat) := [(⟨"CraneYard$Hauls", "isPlaceForBid", "(II)Z"⟩, 8), (⟨"CraneYard", "endDay", "()V"⟩, 12), (⟨"CraneYardModel", "canPut", "(II)Z"⟩, 23), (⟨"CraneYardModel", "most", "()I"⟩, 23), (⟨"CraneYardModel", "goesWell", "(I)Z"⟩, 23), (⟨"CraneYardModel", "put", "(II)V"⟩, 23), (⟨"CraneYardModel", "payWords", "()V"⟩, 23), (⟨"CraneYardModel", "isOnLids", "(II)Z"⟩, 23), (⟨"CraneYardModel", "topOf", "(I)I"⟩, 23), (⟨"CraneYardModel", "sizeOf", "(I)I"⟩, 23), (⟨"CraneYardModel", "copyYard", "()V"⟩, 23), (⟨"CraneYardModel", "isCrate", "(I)Z"⟩, 23), (⟨"CraneYardModel", "digOut", "(I)I"⟩, 23), (⟨"CraneYardModel", "find", "(I)I"⟩, 23), (⟨"CraneYardModel", "canTry", "(II)Z"⟩, 23), (⟨"CraneYardModel", "isSet", "(I)Z"⟩, 23)]
theorem lw_r2 : ∀ q ∈ lw_privs_2, lw_okq q := List.forall_mem_cons.mpr ⟨lw_p16, List.forall_mem_cons.mpr ⟨lw_p17, List.forall_mem_cons.mpr ⟨lw_p18, List.forall_mem_cons.mpr ⟨lw_p19, List.forall_mem_cons.mpr ⟨lw_p20, List.forall_mem_cons.mpr ⟨lw_p21, List.forall_mem_cons.mpr ⟨lw_p22, List.forall_mem_cons.mpr ⟨lw_p23, List.forall_mem_cons.mpr ⟨lw_p24, List.forall_mem_cons.mpr ⟨lw_p25, List.forall_mem_cons.mpr ⟨lw_p26, List.forall_mem_cons.mpr ⟨lw_p27, List.forall_mem_cons.mpr ⟨lw_p28, List.forall_mem_cons.mpr ⟨lw_p29, List.forall_mem_cons.mpr ⟨lw_p30, List.forall_mem_cons.mpr ⟨lw_p31, fun _ h => absurd h List.not_mem_nil⟩⟩⟩⟩⟩⟩⟩⟩⟩⟩⟩⟩⟩⟩⟩⟩
theorem lw_p32 : lw_okq (⟨"CraneYardModel", "liftsBy", "(III)I"⟩, 23) := ⟨⟨by decide +kernel, by decide +kernel⟩, List.mem_of_getElem? (i := 620) (by decide +kernel), List.mem_of_getElem? (i := 806) (by decide +kernel), List.mem_of_getElem? (i := 807) (by decide +kernel)⟩
theorem lw_p33 : lw_okq (⟨"CraneYardModel", "haulOf", "(I)I"⟩, 23) := ⟨⟨by decide +kernel, by decide +kernel⟩, List.mem_of_getElem? (i := 620) (by decide +kernel), List.mem_of_getElem? (i := 832) (by decide +kernel), List.mem_of_getElem? (i := 833) (by decide +kernel)⟩
theorem lw_p34 : lw_okq (⟨"CraneYardModel", "isHaul", "(I)Z"⟩, 23) := ⟨⟨by decide +kernel, by decide +kernel⟩, List.mem_of_getElem? (i := 620) (by decide +kernel), List.mem_of_getElem? (i := 840) (by decide +kernel), List.mem_of_getElem? (i := 841) (by decide +kernel)⟩
theorem lw_p35 : lw_okq (⟨"CraneYardModel", "cheapest", "(I)I"⟩, 23) := ⟨⟨by decide +kernel, by decide +kernel⟩, List.mem_of_getElem? (i := 620) (by decide +kernel), List.mem_of_getElem? (i := 848) (by decide +kernel), List.mem_of_getElem? (i := 849) (by decide +kernel)⟩
theorem lw_p36 : lw_okq (⟨"CraneYardModel", "endDay", "()I"⟩, 23) := ⟨⟨by decide +kernel, by decide +kernel⟩, List.mem_of_getElem? (i := 620) (by decide +kernel), List.mem_of_getElem? (i := 868) (by decide +kernel), List.mem_of_getElem? (i := 869) (by decide +kernel)⟩
def lw_privs_3 : List (MethodName × Nat) := [(⟨"CraneYardModel", "liftsBy", "(III)I"⟩, 23), (⟨"CraneYardModel", "haulOf", "(I)I"⟩, 23), (⟨"CraneYardModel", "isHaul", "(I)Z"⟩, 23), (⟨"CraneYardModel", "cheapest", "(I)I"⟩, 23), (⟨"CraneYardModel", "endDay", "()I"⟩, 23)]
theorem lw_r3 : ∀ q ∈ lw_privs_3, lw_okq q := List.forall_mem_cons.mpr ⟨lw_p32, List.forall_mem_cons.mpr ⟨lw_p33, List.forall_mem_cons.mpr ⟨lw_p34, List.forall_mem_cons.mpr ⟨lw_p35, List.forall_mem_cons.mpr ⟨lw_p36, fun _ h => absurd h List.not_mem_nil⟩⟩⟩⟩⟩
def lw_privs : List (MethodName × Nat) := lw_privs_1 ++ (lw_privs_2 ++ (lw_privs_3))
def lw_tbl : List Cond := k2_sels lw_privs ++ tables_1
theorem lw_privs_ok : ∀ q ∈ lw_privs, lw_okq q := by
  show ∀ q ∈ lw_privs_1 ++ (lw_privs_2 ++ (lw_privs_3)), lw_okq q
  exact List.forall_mem_append.mpr ⟨lw_r1, List.forall_mem_append.mpr ⟨lw_r2, lw_r3⟩⟩
end
section
/-! ===== BEGIN words of one list among another's, by their places ===== -/
theorem goodIn_r {big : List Cond} (ws : List Cond) (ps : List Nat) (hp : ws = ps.filterMap (fun i => big[i]?)) (h : ws.all goodWord = true) : GoodIn big ws := by
  intro w hw
  have h1 := List.all_eq_true.mp h w hw
  rw [hp] at hw
  obtain ⟨i, -, hi⟩ := List.mem_filterMap.mp hw
  have hm : w ∈ big := by first | exact List.mem_of_getElem? hi | exact List.getElem?_mem hi
  exact ⟨hm, good_of_word h1⟩
theorem goodIn_app {big a b : List Cond} (ha : GoodIn big a) (hb : GoodIn big b) : GoodIn big (a ++ b) := fun w h => (List.mem_append.mp h).elim (ha w) (hb w)
theorem goodIn_ca {big a b : List Cond} {c : Cond} (ha : GoodIn big (c :: a)) (hb : GoodIn big b) : GoodIn big (c :: (a ++ b)) := fun w h => (List.mem_cons.mp h).elim (fun e => ha w (List.mem_cons.mpr (Or.inl e))) (fun h => (List.mem_append.mp h).elim (fun h => ha w (List.mem_cons.mpr (Or.inr h))) (hb w))
theorem goodIn_sub {big ws : List Cond} (hm : ∀ w ∈ ws, w ∈ big) (h : ws.all goodWord = true) : GoodIn big ws := fun w hw => ⟨hm w hw, good_of_word (List.all_eq_true.mp h w hw)⟩
/-! ===== END ===== -/

/-! ===== BEGIN exceptions that leave a method, and their catching by the caller (launches without stack traces) ===== -/
section VXA
/-! The laws vx_back, vx_callV, vx_callS, vx_callSW, vx_throw0, vx_throwS follow proofs of the library, with one case more: JvmDerived/Free/Laws.lean (Back.of_free), Shelf42/LK1.lean (callV, callS), Shelf/KitTraced.lean (throwNew0V, throwNewS). -/
/-- where a method has thrown q: the class by its name, the cell, what was written, the world -/
def vx_T (XC : String → State → State → Prop) (st : State) (q : Addr) (t : State) (mc ms : Nat) (free : Addr → Prop) : Prop :=
  ∃ (E : String) (ce : Cell) (L : List Loc), XC E st t ∧ t.heap[q]? = some ce ∧ ce.vm = .none ∧ st.vm.findClass E = some ce.cls ∧ st.WarmedH t.vm ∧ st.sameButNew ({ t with vm := st.vm } : State) L mc ms ∧ ∀ z ∈ L, free z.base
def vx_Q (Qc : Array Value → State → Outcome → State → Prop) (XC : String → State → State → Prop) (mc ms : Nat) (free : Addr → Prop) : Array Value → State → Outcome → State → Prop := fun a st o t =>
  (Qc a st o t ∧ ∃ L, FrameEnd st o t L mc ms ∧ ∀ q ∈ L, free q.base) ∨ ∃ q, o = .threw q ∧ vx_T XC st q t mc ms free
/-- a callee that returns or throws -/
def vx_Met (l : Launch) (y : MethodName) (ws : List Cond) (rm : Room) (Pc : Array Value → State → Prop) (Qc : Array Value → State → Outcome → State → Prop) (XC : String → State → State → Prop) (mc ms : Nat) (free : Addr → Prop) : Prop :=
  MetFree l y (headSpec ws rm) Pc (fun _ _ _ _ _ => True) (vx_Q Qc XC mc ms free)
def vx_Post (XC : String → State → State → Prop) (mc ms : Nat) (free : Addr → Prop) : Pt → Array Value → Addr → Pt → Prop := fun A a q B =>
  ∃ (g : JFrame) (mk : MethodId) (t : State) (L : List Loc) (E : String) (ce : Cell), B.U.heap = t.heap ∧ B.U.vm = t.vm ∧ XC E (A.U.calling g mk a) t ∧ t.heap[q]? = some ce ∧ ce.vm = .none ∧ A.U.vm.findClass E = some ce.cls ∧ B.locs = A.locs ++ L ∧ (∀ z ∈ L, free z.base) ∧ B.cells = A.cells + mc ∧ B.slots = A.slots + ms
def vx_Back (l : Launch) (R : Room) (p : Program) (e : Env) (below : List Frame) (s : State) (sargs : Array Value) (y : MethodName) (len W9 : Nat)
    (Pre : Pt → Array Value → Prop) (Post : Pt → Array Value → Option Value → Pt → Prop) (PostX : Pt → Array Value → Addr → Pt → Prop) : Prop :=
  ∀ (m : MethodId) (meth : Method) (c : Code) (A : Pt) (g : JFrame) (ig : Instr) (mk : MethodId) (a : Array Value),
    Stand p l e R s m sargs below meth c A.U A.locs A.cells A.slots → g.method = m → g.locals.size = c.maxLocals → decode c.code g.pc = .ok (ig, len) →
    2 * g.monitorRoom + (g.stack.map fun v => v.category).sum ≤ W9 → A.U.methodNamed? y = some mk → Pre A a →
    (∃ (v : Option Value) (B : Pt), Stand p l e R s m sargs below meth c B.U B.locs B.cells B.slots ∧ Post A a v B ∧
      Steps p.tables e below (doInvoke e (A.U.setTop g) [] mk a).1 (B.U.setTop { g with pc := g.pc + len, stack := v.toList ++ g.stack })) ∨
    (∃ (q : Addr) (B : Pt), Stand p l e R s m sargs below meth c B.U B.locs B.cells B.slots ∧ PostX A a q B ∧
      Steps p.tables e below (doInvoke e (A.U.setTop g) [] mk a).1 ((B.U.setTop g).pushFrame (.throwing q)))
section Payer
variable {l : Launch} {R : Room} {p : Program} {e : Env} {below : List Frame} {s : State} {sargs : Array Value} {y : MethodName} {len W9 : Nat}
theorem vx_back {ws : List Cond} {rm : Room} {Pc : Array Value → State → Prop} {Qc : Array Value → State → Outcome → State → Prop} {XC : String → State → State → Prop} {mc ms : Nat} {free : Addr → Prop} {bytes : ByteArray} {maxL : Nat} {ret : Option FieldType}
    (hM : vx_Met l y ws rm Pc Qc XC mc ms free) (hblind : FrameBlind Pc) (hrc : rm.cells = mc) (hrs : rm.slots = ms)
    (hframes : rm.frames + 1 ≤ R.frames) (hlocals : W9 + (maxL + 11) + rm.locals ≤ R.locals)
    (hws : ∀ w ∈ ws, ∀ a' U, s.WarmedH U.vm → w.before a' U = true) (hcode : Cond.code y bytes maxL ret ∈ ws) (hinit : ∀ a' U, s.WarmedH U.vm → (Cond.initialized y.cls).before a' U = true) :
    vx_Back l R p e below s sargs y len W9 (PreOf R mc ms Pc) (PostOf Qc mc ms free) (vx_Post XC mc ms free) := by
  intro m meth c A g ig mk a X hg hsize hdg hW hn hp
  have h1 : (headSpec ws rm).pre.before a A.U = true := atoms_intro fun w hw => hws w hw _ _ X.warmed
  have h2 : (Cond.code y bytes maxL ret).before a A.U = true := hws _ hcode _ _ X.warmed
  have h3 : (Cond.initialized y.cls).before a A.U = true := hinit _ _ X.warmed
  have h4 : A.cells + (headSpec ws rm).room.cells ≤ R.cells := by rw [show (headSpec ws rm).room.cells = mc from hrc]; exact hp.1
  have h5 : A.slots + (headSpec ws rm).room.slots ≤ R.slots := by rw [show (headSpec ws rm).room.slots = ms from hrs]; exact hp.2.1
  have hPc : Pc a (A.U.calling g mk a) := hblind _ _ _ _ hp.2.2
  obtain ⟨U, Ls, c0, s0⟩ := A
  dsimp only [Pt.U, Pt.locs, Pt.cells, Pt.slots] at h1 h2 h3 h4 h5 X hn hPc ⊢
  obtain ⟨methY, cY, hmY, hcY, -, hlY, -, -, -, -⟩ := Cond.code_spec hn h2
  obtain ⟨kY, hkY, -⟩ := className_of_methodNamed hn
  have hinitY : kY.init = .initialized := Cond.initialized_spec (findClass_of_methodNamed hn) hkY h3
  have h : At U g.method c below := by rw [hg]; exact X.here
  have hlocals9 : W9 + (maxL + 11) + (headSpec ws rm).room.locals ≤ R.locals := hlocals
  have happ : (headSpec ws rm).appliesLoose y e.platform (U.calling g mk a) = true :=
    Spec.appliesLoose_calling (g := g) h hdg hn hkY hinitY
      (X.room_calling (g := g) (R' := (headSpec ws rm).room) hsize hmY hcY hframes (by rw [hlY]; omega) h4 h5) h1
  obtain ⟨mid, hmid⟩ := h.above
  have hfr : (U.setTop g).frames = (.java g :: mid) ++ below := by rw [State.frames_setTop' g h.top, hmid]; rfl
  obtain ⟨o, s₂, hsteps, -, hend, hq⟩ := Steps.callFree hM p X.admits X.cas X.clock (acts := []) hfr happ hPc trivial
  have hq' : vx_Q Qc XC mc ms free a (U.calling g mk a) o s₂ := hq
  rw [State.frames_setTop' g h.top] at hend
  obtain ⟨g₀, hg0⟩ := Option.isSome_iff_exists.mp h.top
  obtain ⟨r, hr⟩ := State.topJava?_eq_some.mp hg0
  have hr' : (({ U with heap := s₂.heap, slotsUsed := s₂.slotsUsed } : State).setVm s₂.vm).frames = .java g₀ :: r := hr
  rcases hq' with ⟨hqc, L, hfe, hL⟩ | ⟨q, rfl, E, ce, L, hx, hce, hcv, hcl, hW₂, hsm, hL⟩
  · obtain ⟨⟨v, rfl⟩, hW₂, e2, q2, q3, q4, q5, q6⟩ := id hfe
    have e3 : s₂ = ({ (U.calling g mk a).setFrames s₂.frames with heap := s₂.heap, slotsUsed := s₂.slotsUsed } : State).setVm s₂.vm := by
      have : s₂ = ({ s₂ with vm := (U.calling g mk a).vm } : State).setVm s₂.vm := rfl
      rw [e2] at this
      exact this
    obtain ⟨c₂, i₂, len₂, hc₂, hd₂, hf₂⟩ := hend
    have hW' : U.WarmedH s₂.vm := hW₂
    have hcc : c₂ = c := by
      have h1 : s₂.code? g.method = U.code? g.method := by
        rw [State.code?_eq, State.code?_eq, hW'.alike.method?]
      exact Option.some.inj (hc₂.symm.trans (h1.trans h.code))
    subst hcc
    have hlen : len₂ = len := by rw [hdg] at hd₂; cases hd₂; rfl
    subst hlen
    have hs₂ : s₂ = (({ U with heap := s₂.heap, slotsUsed := s₂.slotsUsed } : State).setVm s₂.vm).setTop { g with pc := g.pc + len₂, stack := v.toList ++ g.stack } := by
      refine e3.trans ?_
      rw [hf₂, State.calling_eq h.top, State.setFrames_setFrames, State.setTop_of_frames _ hr', hr]
      rfl
    have hsame : U.sameButNew ({ U with heap := s₂.heap, slotsUsed := s₂.slotsUsed } : State) L mc ms := by
      refine ⟨?_, q2, q3, q4, q5, q6⟩
      obtain ⟨t, ht, -⟩ := State.frames_cons hr
      show ({ U with heap := s₂.heap, slotsUsed := s₂.slotsUsed } : State) = { U.setFrames U.frames with heap := s₂.heap, slotsUsed := s₂.slotsUsed }
      rw [State.setFrames_self ht]
    subst hg
    refine Or.inl ⟨v, ⟨(({ U with heap := s₂.heap, slotsUsed := s₂.slotsUsed } : State).setVm s₂.vm), Ls ++ L, c0 + mc, s0 + ms⟩,
      ⟨X.admits, X.cas, X.clock, X.frames, X.room, X.hears, X.method, X.code, (X.here.setHeapUsed s₂.heap s₂.slotsUsed).setVm hW'.alike, X.tail, State.WarmedH.trans X.warmed hW', X.limits, X.bytes, X.same.trans (hsame.setVm s.vm)⟩,
      ⟨g, mk, s₂, L, rfl, rfl, hqc, rfl, hL, rfl, rfl⟩, ?_⟩
    show Steps p.tables e below _ ((({ U with heap := s₂.heap, slotsUsed := s₂.slotsUsed } : State).setVm s₂.vm).setTop { g with pc := g.pc + len₂, stack := v.toList ++ g.stack })
    rw [← hs₂]
    exact hsteps
  · obtain ⟨e2, q2, q3, q4, q5, q6⟩ := id hsm
    have e3 : s₂ = ({ (U.calling g mk a).setFrames s₂.frames with heap := s₂.heap, slotsUsed := s₂.slotsUsed } : State).setVm s₂.vm := by
      have : s₂ = ({ s₂ with vm := (U.calling g mk a).vm } : State).setVm s₂.vm := rfl
      rw [e2] at this
      exact this
    have hf₂ : s₂.frames = .throwing q :: .java g :: U.frames.tail := hend
    have hW' : U.WarmedH s₂.vm := hW₂
    have hs₂ : s₂ = ((({ U with heap := s₂.heap, slotsUsed := s₂.slotsUsed } : State).setVm s₂.vm).setTop g).pushFrame (.throwing q) := by
      refine e3.trans ?_
      rw [hf₂, State.calling_eq h.top, State.setFrames_setFrames, State.pushFrame, State.frames_setTop _ hr', State.setTop_of_frames _ hr', State.setFrames_setFrames, hr]
      rfl
    have hsame : U.sameButNew ({ U with heap := s₂.heap, slotsUsed := s₂.slotsUsed } : State) L mc ms := by
      refine ⟨?_, q2, q3, q4, q5, q6⟩
      obtain ⟨t, ht, -⟩ := State.frames_cons hr
      show ({ U with heap := s₂.heap, slotsUsed := s₂.slotsUsed } : State) = { U.setFrames U.frames with heap := s₂.heap, slotsUsed := s₂.slotsUsed }
      rw [State.setFrames_self ht]
    subst hg
    refine Or.inr ⟨q, ⟨(({ U with heap := s₂.heap, slotsUsed := s₂.slotsUsed } : State).setVm s₂.vm), Ls ++ L, c0 + mc, s0 + ms⟩,
      ⟨X.admits, X.cas, X.clock, X.frames, X.room, X.hears, X.method, X.code, (X.here.setHeapUsed s₂.heap s₂.slotsUsed).setVm hW'.alike, X.tail, State.WarmedH.trans X.warmed hW', X.limits, X.bytes, X.same.trans (hsame.setVm s.vm)⟩,
      ⟨g, mk, s₂, L, E, ce, rfl, rfl, hx, hce, hcv, hcl, rfl, hL, rfl, rfl⟩, ?_⟩
    show Steps p.tables e below _ (((({ U with heap := s₂.heap, slotsUsed := s₂.slotsUsed } : State).setVm s₂.vm).setTop g).pushFrame (.throwing q))
    rw [← hs₂]
    exact hsteps
end Payer
section Calls
variable {p : Program} {l : Launch} {e : Env} {R : Room} {s : State} {m : MethodId} {args : Array Value} {below : List Frame} {meth : Method} {c : Code} {T : State} {locs : List Loc} {cells slots : Nat}
theorem vx_callV (X : Stand p l e R s m args below meth c T locs cells slots) (hexec : p.tables.exec = Jvm.exec) {own C : String} {index : Nat} {y : MethodName} {bytes : ByteArray} {maxL : Nat} {ret : Option FieldType}
    (hown : s.vm.findClass own = some m.cls) (hlink : (Cond.methodLink own index y).before args s = true) (hinst : (Cond.instanceMethod y).before args s = true) (hsel : (Cond.selects C y y).before args s = true)
    (hcode : (Cond.code y bytes maxL ret).before args s = true) (hy : y.cls ≠ "java/lang/invoke/MethodHandle" ∧ y.cls ≠ "java/lang/invoke/VarHandle")
    {W9 : Nat} {Pre : Pt → Array Value → Prop} {Post : Pt → Array Value → Option Value → Pt → Prop} {PostX : Pt → Array Value → Addr → Pt → Prop} (hK : vx_Back l R p e below s args y 3 W9 Pre Post PostX)
    {b : Addr} {cellB : Cell} (hcell : T.heap[b]? = some cellB) (hobj : cellB.vm.isStatics = false) (hcls : s.vm.findClass C = some cellB.cls)
    {g : JFrame} (hg : g.method = m) (hsize : g.locals.size = c.maxLocals) {argsL rest : List Value} (hlen : ∀ sig, parseMethodDescriptor y.desc = some sig → argsL.length = sig.parameters.length)
    (hstack : g.stack = argsL.reverse ++ .ref b :: rest) (hW : 2 * g.monitorRoom + (rest.map fun v => v.category).sum ≤ W9) (hdg : decode c.code g.pc = .ok (.invokevirtual index, 3))
    (hpre : ∀ vm₁, s.WarmedH vm₁ → Pre ⟨T.setVm vm₁, locs, cells, slots⟩ (Value.ref b :: argsL).toArray) :
    (∃ (v : Option Value) (vm₁ : Vm) (B : Pt), s.WarmedH vm₁ ∧ Stand p l e R s m args below meth c B.U B.locs B.cells B.slots ∧ Post ⟨T.setVm vm₁, locs, cells, slots⟩ (Value.ref b :: argsL).toArray v B ∧
      ∀ target, Steps p.tables e below (B.U.setTop { g with pc := g.pc + 3, stack := v.toList ++ rest }) target → Steps p.tables e below (T.setTop g) target) ∨
    (∃ (q : Addr) (vm₁ : Vm) (B : Pt), s.WarmedH vm₁ ∧ Stand p l e R s m args below meth c B.U B.locs B.cells B.slots ∧ PostX ⟨T.setVm vm₁, locs, cells, slots⟩ (Value.ref b :: argsL).toArray q B ∧
      Steps p.tables e below (T.setTop g) ((B.U.setTop { g with stack := rest }).pushFrame (.throwing q))) := by
  obtain ⟨mk, methM, hnamed, hmethM, hstM, habM⟩ := Cond.instanceMethod_spec hinst
  obtain ⟨methM', cM, hmethM', -, -, -, -, -, -, hsigM⟩ := Cond.code_spec hnamed hcode
  cases hmethM.symm.trans hmethM'
  obtain ⟨c2, r2, m2, q1, q2, q3, q4, kP, hkP, hkPi⟩ := Cond.selects_spec hsel
  cases hcls.symm.trans q1
  cases (State.methodFound?_of_named hnamed hy).symm.trans q2
  cases hnamed.symm.trans q3
  have hselP : selectMethod e.platform s.vm cellB.cls mk = .method mk := by rw [Launch.admits_selectMethod X.admits]; exact q4
  obtain ⟨vm₁, X₁, hstep₁⟩ := X.invokevirtual hexec hown hlink hnamed hmethM hstM hkP hkPi hy (a := b) (cell := cellB) hcell
    (fun z h => by rw [h] at hobj; cases hobj) hselP hmethM habM hkP hkPi (g := g) hg (argsL := argsL) (rest := rest) (hlen _ hsigM) hstack hdg
  rcases hK m meth c ⟨T.setVm vm₁, locs, cells, slots⟩ { g with stack := rest } (.invokevirtual index) mk (Value.ref b :: argsL).toArray X₁ hg hsize hdg hW (X₁.named hnamed) (hpre vm₁ X₁.warmed) with ⟨v, B, X', hpost, hsteps⟩ | ⟨q, B, X', hpost, hsteps⟩
  · exact Or.inl ⟨v, vm₁, B, X₁.warmed, X', hpost, fun target h => hstep₁ _ fun acts => by rw [doInvoke_state]; exact hsteps.trans h⟩
  · exact Or.inr ⟨q, vm₁, B, X₁.warmed, X', hpost, hstep₁ _ fun acts => by rw [doInvoke_state]; exact hsteps⟩
theorem vx_callS (X : Stand p l e R s m args below meth c T locs cells slots) (hexec : p.tables.exec = Jvm.exec) {own : String} {index : Nat} {y : MethodName} {bytes : ByteArray} {maxL : Nat} {ret : Option FieldType}
    (hown : s.vm.findClass own = some m.cls) (hlink : (Cond.methodLink own index y).before args s = true) (hstat : (Cond.static y).before args s = true) (hinit : (Cond.initialized y.cls).before args s = true)
    (hcode : (Cond.code y bytes maxL ret).before args s = true) (hy : y.cls ≠ "java/lang/invoke/MethodHandle" ∧ y.cls ≠ "java/lang/invoke/VarHandle")
    {W9 : Nat} {Pre : Pt → Array Value → Prop} {Post : Pt → Array Value → Option Value → Pt → Prop} {PostX : Pt → Array Value → Addr → Pt → Prop} (hK : vx_Back l R p e below s args y 3 W9 Pre Post PostX)
    {g : JFrame} (hg : g.method = m) (hsize : g.locals.size = c.maxLocals) {argsL rest : List Value} (hlen : ∀ sig, parseMethodDescriptor y.desc = some sig → argsL.length = sig.parameters.length)
    (hstack : g.stack = argsL.reverse ++ rest) (hW : 2 * g.monitorRoom + (rest.map fun v => v.category).sum ≤ W9) (hdg : decode c.code g.pc = .ok (.invokestatic index, 3))
    (hpre : ∀ vm₁, s.WarmedH vm₁ → Pre ⟨T.setVm vm₁, locs, cells, slots⟩ argsL.toArray) :
    (∃ (v : Option Value) (vm₁ : Vm) (B : Pt), s.WarmedH vm₁ ∧ Stand p l e R s m args below meth c B.U B.locs B.cells B.slots ∧ Post ⟨T.setVm vm₁, locs, cells, slots⟩ argsL.toArray v B ∧
      ∀ target, Steps p.tables e below (B.U.setTop { g with pc := g.pc + 3, stack := v.toList ++ rest }) target → Steps p.tables e below (T.setTop g) target) ∨
    (∃ (q : Addr) (vm₁ : Vm) (B : Pt), s.WarmedH vm₁ ∧ Stand p l e R s m args below meth c B.U B.locs B.cells B.slots ∧ PostX ⟨T.setVm vm₁, locs, cells, slots⟩ argsL.toArray q B ∧
      Steps p.tables e below (T.setTop g) ((B.U.setTop { g with stack := rest }).pushFrame (.throwing q))) := by
  obtain ⟨mk, hnamed⟩ := Cond.code_named hcode
  obtain ⟨methM, cM, hmethM, -, -, -, -, -, -, hsigM⟩ := Cond.code_spec hnamed hcode
  have hstatic : methM.isStatic = true := Cond.static_spec hnamed hmethM hstat
  obtain ⟨kP, hkP, -⟩ := className_of_methodNamed hnamed
  have hinitP : kP.init = .initialized := Cond.initialized_spec (findClass_of_methodNamed hnamed) hkP hinit
  obtain ⟨vm₁, X₁, hstep₁⟩ := X.invokestatic hexec hown hlink hnamed hmethM hstatic hkP hinitP hy (g := g) hg (argsL := argsL) (rest := rest) (hlen _ hsigM) hstack hdg
  rcases hK m meth c ⟨T.setVm vm₁, locs, cells, slots⟩ { g with stack := rest } (.invokestatic index) mk argsL.toArray X₁ hg hsize hdg hW (X₁.named hnamed) (hpre vm₁ X₁.warmed) with ⟨v, B, X', hpost, hsteps⟩ | ⟨q, B, X', hpost, hsteps⟩
  · exact Or.inl ⟨v, vm₁, B, X₁.warmed, X', hpost, fun target h => hstep₁ _ fun acts => by rw [doInvoke_state]; exact hsteps.trans h⟩
  · exact Or.inr ⟨q, vm₁, B, X₁.warmed, X', hpost, hstep₁ _ fun acts => by rw [doInvoke_state]; exact hsteps⟩
end Calls
theorem vx_cls {s : State} {T : State} {vm₁ : Vm} {E : String} {k : ClassId} (hW : s.WarmedH vm₁) (h : (T.setVm vm₁).vm.findClass E = some k) : s.vm.findClass E = some k := by
  have h1 : vm₁.findClass E = some k := h
  rw [hW.alike.findClass] at h1
  exact h1
/-- the method's frame g, with q thrown over it -/
def vx_W (p : Program) (l : Launch) (e : Env) (R : Room) (s : State) (m : MethodId) (args : Array Value) (below : List Frame) (meth : Method) (c : Code) (H : Heap) (locs : List Loc) (cells slots : Nat) (Q : State → Prop) (g : JFrame) (q : Addr) : Prop :=
  ∀ T : State, T.heap = H → Stand p l e R s m args below meth c T locs cells slots → ∃ t, Steps p.tables e below ((T.setTop g).pushFrame (.throwing q)) t ∧ Q t
def vx_Run (p : Program) (l : Launch) (e : Env) (R : Room) (s : State) (m : MethodId) (args : Array Value) (below : List Frame) (meth : Method) (c : Code) (H : Heap) (locs : List Loc) (cells slots mc ms : Nat) (g : JFrame) (rest : List Value) (Qa : State → Outcome → State → Prop) (XC : String → State → State → Prop) (free : Addr → Prop) : Prop :=
  ∀ T : State, T.heap = H → Stand p l e R s m args below meth c T locs cells slots →
    (∃ (v : Option Value) (st₀ t T' : State) (L : List Loc), st₀.heap = H ∧ Stand p l e R s m args below meth c T' (locs ++ L) (cells + mc) (slots + ms) ∧ (∀ q ∈ L, free q.base) ∧ T'.heap = t.heap ∧ T'.vm = t.vm ∧ Qa st₀ (.returned v) t ∧
      Goes p e below T g T' { g with pc := g.pc + 3, stack := v.toList ++ rest }) ∨
    (∃ (q : Addr) (st₀ t T' : State) (L : List Loc) (E : String) (ce : Cell), st₀.heap = H ∧ Stand p l e R s m args below meth c T' (locs ++ L) (cells + mc) (slots + ms) ∧ (∀ z ∈ L, free z.base) ∧ T'.heap = t.heap ∧ T'.vm = t.vm ∧ XC E st₀ t ∧ t.heap[q]? = some ce ∧ ce.vm = .none ∧ s.vm.findClass E = some ce.cls ∧
      Steps p.tables e below (T.setTop g) ((T'.setTop { g with stack := rest }).pushFrame (.throwing q)))
def vx_X {S : Type} (px : S → Prop) (B : String → S → State → Prop) (A : Nat → Prop) : String → State → State → Prop := fun E st t => ∃ u : S, px u ∧ B E u t ∧ va_F A st t
section Runs
variable {p : Program} {l : Launch} {e : Env} {R : Room} {s : State} {m : MethodId} {args : Array Value} {below : List Frame} {meth : Method} {c : Code} {H : Heap} {locs : List Loc} {cells slots : Nat}
variable {y : MethodName} {bytes cc : ByteArray} {maxL nL mc ms n index : Nat} {ret : Option FieldType} {ws : List Cond} {rm : Room} {Pc : Array Value → State → Prop} {Qc : Array Value → State → Outcome → State → Prop} {XC : String → State → State → Prop} {free : Addr → Prop} {Ts : List Cond} {own C : String} {b : Addr} {As rest : List Value} {g : JFrame}
theorem vx_callBack (cb : CallB R s args own index y bytes maxL ret ws rm mc ms n) (hM : vx_Met l y ws rm Pc Qc XC mc ms free) (hbl : FrameBlind Pc) : vx_Back l R p e below s args y 3 8 (PreOf R mc ms Pc) (PostOf Qc mc ms free) (vx_Post XC mc ms free) := by
  obtain ⟨hrc, hrs, hfr, hlo, hws, hcw, -, hini, -⟩ := cb
  exact vx_back (bytes := bytes) (maxL := maxL) (ret := ret) hM hbl hrc hrs hfr hlo hws hcw (fun a' U hW => word_at hW (Or.inl (by first | rfl | simp [Cond.onTables, Cond.keeps, Cond.steady])) hini)
theorem vx_runV (S : CallFix p m c cc nL s args Ts own) (hM : vx_Met l y ws rm Pc Qc XC mc ms free) (cw : CallW R s args own C index y bytes maxL ret ws rm mc ms n) (hp : PreV s H C b Pc As)
    (hg : g.method = m) (hn : As.length = n) (hsize : g.locals.size = nL) (hstack : g.stack = As.reverse ++ .ref b :: rest) (hW : 2 * g.monitorRoom + (rest.map fun v => v.category).sum ≤ 8) (hdg : decode cc g.pc = .ok (.invokevirtual index, 3)) (hf : cells + mc ≤ R.cells ∧ slots + ms ≤ R.slots) :
    vx_Run p l e R s m args below meth c H locs cells slots mc ms g rest (Qc (Value.ref b :: As).toArray) XC free := by
  have hK : vx_Back l R p e below s args y 3 8 (PreOf R mc ms Pc) (PostOf Qc mc ms free) (vx_Post XC mc ms free) := vx_callBack cw.1 hM hp.1
  obtain ⟨⟨-, -, -, -, -, -, hcode, -, hy, hlen, hl⟩, hin, hse⟩ := cw
  obtain ⟨hx, hb, hml, ho, -⟩ := S
  obtain ⟨-, ⟨cellB, hcB, hoB, hclB⟩, hPc⟩ := hp
  intro T hT X
  rcases vx_callV X hx (C := C) (bytes := bytes) (maxL := maxL) (ret := ret) ho hl hin hse hcode hy hK (by rw [hT]; exact hcB) hoB hclB hg (hsize.trans hml.symm) (argsL := As) (rest := rest) (fun sig h => hn.trans (hlen sig h)) hstack hW (by rw [hb]; exact hdg)
    (fun vm₁ hW₁ => ⟨hf.1, hf.2, hPc (T.setVm vm₁) hT hW₁⟩) with ⟨v, vm₁, ⟨U', l2, c2, s2⟩, hW₁, X', ⟨g', mk, t, L, e1, e2, hq, h1, hL, h2, h3⟩, st⟩ | ⟨q, vm₁, ⟨U', l2, c2, s2⟩, hW₁, X', ⟨g', mk, t, L, E, ce, e1, e2, hq, hce, hcv, hcl, h1, hL, h2, h3⟩, st⟩
  · dsimp only [Pt.U, Pt.locs, Pt.cells, Pt.slots] at X' e1 e2 h1 h2 h3 st
    subst h1; subst h2; subst h3
    exact Or.inl ⟨v, (T.setVm vm₁).calling g' mk (Value.ref b :: As).toArray, t, U', L, hT, X', hL, e1, e2, hq, st⟩
  · dsimp only [Pt.U, Pt.locs, Pt.cells, Pt.slots] at X' e1 e2 h1 h2 h3 st hcl
    subst h1; subst h2; subst h3
    exact Or.inr ⟨q, (T.setVm vm₁).calling g' mk (Value.ref b :: As).toArray, t, U', L, E, ce, hT, X', hL, e1, e2, hq, hce, hcv, vx_cls hW₁ hcl, st⟩
theorem vx_runS (S : CallFix p m c cc nL s args Ts own) (hM : vx_Met l y ws rm Pc Qc XC mc ms free) (cw : CallB R s args own index y bytes maxL ret ws rm mc ms n ∧ (Cond.static y).before args s = true) (hp : PreS s H Pc As)
    (hg : g.method = m) (hn : As.length = n) (hsize : g.locals.size = nL) (hstack : g.stack = As.reverse ++ rest) (hW : 2 * g.monitorRoom + (rest.map fun v => v.category).sum ≤ 8) (hdg : decode cc g.pc = .ok (.invokestatic index, 3)) (hf : cells + mc ≤ R.cells ∧ slots + ms ≤ R.slots) :
    vx_Run p l e R s m args below meth c H locs cells slots mc ms g rest (Qc As.toArray) XC free := by
  have hK : vx_Back l R p e below s args y 3 8 (PreOf R mc ms Pc) (PostOf Qc mc ms free) (vx_Post XC mc ms free) := vx_callBack cw.1 hM hp.1
  obtain ⟨⟨-, -, -, -, -, -, hcode, hini, hy, hlen, hl⟩, hstt⟩ := cw
  obtain ⟨hx, hb, hml, ho, -⟩ := S
  intro T hT X
  rcases vx_callS X hx (bytes := bytes) (maxL := maxL) (ret := ret) ho hl hstt hini hcode hy hK hg (hsize.trans hml.symm) (argsL := As) (rest := rest) (fun sig h => hn.trans (hlen sig h)) hstack hW (by rw [hb]; exact hdg)
    (fun vm₁ hW₁ => ⟨hf.1, hf.2, hp.2 (T.setVm vm₁) hT hW₁⟩) with ⟨v, vm₁, ⟨U', l2, c2, s2⟩, hW₁, X', ⟨g', mk, t, L, e1, e2, hq, h1, hL, h2, h3⟩, st⟩ | ⟨q, vm₁, ⟨U', l2, c2, s2⟩, hW₁, X', ⟨g', mk, t, L, E, ce, e1, e2, hq, hce, hcv, hcl, h1, hL, h2, h3⟩, st⟩
  · dsimp only [Pt.U, Pt.locs, Pt.cells, Pt.slots] at X' e1 e2 h1 h2 h3 st
    subst h1; subst h2; subst h3
    exact Or.inl ⟨v, (T.setVm vm₁).calling g' mk As.toArray, t, U', L, hT, X', hL, e1, e2, hq, st⟩
  · dsimp only [Pt.U, Pt.locs, Pt.cells, Pt.slots] at X' e1 e2 h1 h2 h3 st hcl
    subst h1; subst h2; subst h3
    exact Or.inr ⟨q, (T.setVm vm₁).calling g' mk As.toArray, t, U', L, E, ce, hT, X', hL, e1, e2, hq, hce, hcv, vx_cls hW₁ hcl, st⟩
end Runs
section Rows
variable {p : Program} {l : Launch} {e : Env} {R : Room} {s : State} {m : MethodId} {args : Array Value} {below : List Frame} {meth : Method} {c : Code} {H : Heap} {locs : List Loc} {cells slots : Nat} {Q : State → Prop}
variable {mc ms : Nat} {free : Addr → Prop} {A0 A1 : Nat → Prop} {H0 : Heap} {a : Array Value} {pc : Nat} {ls : Array Slot} {st0 rest : List Value}
theorem vx_keep {st₀ t T' : State} {L : List Loc} (h0 : st₀.heap = H) (e1 : T'.heap = t.heap) (hS : va_S A0 H0 H locs) (hA : ∀ q, q < H.size → A1 q → A0 q) (hf : ∀ q, free q → A0 q) (hL : ∀ q ∈ L, free q.base) (hF : va_F A1 st₀ t) :
    H.size ≤ T'.heap.size ∧ (∀ q : Nat, q < H.size → ¬ A1 q → T'.heap[q]? = H[q]?) ∧ va_S A0 H0 T'.heap (locs ++ L) := by
  obtain ⟨hz, hk⟩ := hF
  rw [h0] at hz hk
  exact ⟨by rw [e1]; exact hz, fun q h1 h2 => by rw [e1]; exact hk q h1 h2,
    ⟨Nat.le_trans hS.1 (by rw [e1]; exact hz), fun q h1 h2 => by rw [e1, hk q (Nat.lt_of_lt_of_le h1 hS.1) (fun z => h2 (hA q (Nat.lt_of_lt_of_le h1 hS.1) z))]; exact hS.2.1 q h1 h2, fun q hq => by
      rcases List.mem_append.mp hq with h | h
      · exact hS.2.2 q h
      · exact hf _ (hL q h)⟩⟩
theorem vx_calli {S SX : Type} {post : Int32 → S → Prop} {px : SX → Prop} {B : S → State → Prop} {BX : String → SX → State → Prop} {AX : Nat → Prop} (hr : vx_Run p l e R s m args below meth c H locs cells slots mc ms (F0 m pc ls st0) rest (va_Qi post B A1 a) (vx_X px BX AX) free) (hS : va_S A0 H0 H locs) (hA : ∀ q, q < H.size → A1 q → A0 q) (hf : ∀ q, free q → A0 q) (hAX : ∀ q, q < H.size → AX q → A0 q)
    (kx : ∀ (E : String) (ce : Cell) (q9 : Addr) (u : SX) (t : State) (H1 : Heap) (locs1 : List Loc), t.heap = H1 → s.vm.Alike t.vm → px u → BX E u t → H.size ≤ H1.size → (∀ q : Nat, q < H.size → ¬ AX q → H1[q]? = H[q]?) → va_S A0 H0 H1 locs1 → H1[q9]? = some ce → ce.vm = .none → s.vm.findClass E = some ce.cls → vx_W p l e R s m args below meth c H1 locs1 (cells + mc) (slots + ms) Q (F0 m pc ls rest) q9)
    (kk : ∀ (r : Int32) (u : S) (t : State) (H1 : Heap) (locs1 : List Loc), t.heap = H1 → s.vm.Alike t.vm → post r u → B u t → H.size ≤ H1.size → (∀ q : Nat, q < H.size → ¬ A1 q → H1[q]? = H[q]?) → va_S A0 H0 H1 locs1 → W p l e R s m args below meth c H1 locs1 (cells + mc) (slots + ms) Q (F0 m (pc + 3) ls (.int r :: rest))) : W p l e R s m args below meth c H locs cells slots Q (F0 m pc ls st0) := by
  intro T hT X
  rcases hr T hT X with ⟨v, st₀, t, T', L, h0, X', hL, e1, e2, ⟨⟨r, u, hv, hp, hb⟩, hF⟩, st⟩ | ⟨q, st₀, t, T', L, E, ce, h0, X', hL, e1, e2, ⟨u, hp, hb, hF⟩, hce, hcv, hcl, st⟩
  · cases hv
    obtain ⟨k1, k2, k3⟩ := vx_keep h0 e1 hS hA hf hL hF
    obtain ⟨t2, a1, b1⟩ := kk r u t T'.heap (locs ++ L) e1.symm (by rw [← e2]; exact X'.warmed.alike) hp hb k1 k2 k3 T' rfl X'
    exact ⟨t2, st t2 a1, b1⟩
  · obtain ⟨k1, k2, k3⟩ := vx_keep h0 e1 hS hAX hf hL hF
    obtain ⟨t2, a1, b1⟩ := kx E ce q u t T'.heap (locs ++ L) e1.symm (by rw [← e2]; exact X'.warmed.alike) hp hb k1 k2 k3 (by rw [e1]; exact hce) hcv hcl T' rfl X'
    exact ⟨t2, st.trans a1, b1⟩
theorem vx_calll {S SX : Type} {post : Int64 → S → Prop} {px : SX → Prop} {B : S → State → Prop} {BX : String → SX → State → Prop} {AX : Nat → Prop} (hr : vx_Run p l e R s m args below meth c H locs cells slots mc ms (F0 m pc ls st0) rest (va_Ql post B A1 a) (vx_X px BX AX) free) (hS : va_S A0 H0 H locs) (hA : ∀ q, q < H.size → A1 q → A0 q) (hf : ∀ q, free q → A0 q) (hAX : ∀ q, q < H.size → AX q → A0 q)
    (kx : ∀ (E : String) (ce : Cell) (q9 : Addr) (u : SX) (t : State) (H1 : Heap) (locs1 : List Loc), t.heap = H1 → s.vm.Alike t.vm → px u → BX E u t → H.size ≤ H1.size → (∀ q : Nat, q < H.size → ¬ AX q → H1[q]? = H[q]?) → va_S A0 H0 H1 locs1 → H1[q9]? = some ce → ce.vm = .none → s.vm.findClass E = some ce.cls → vx_W p l e R s m args below meth c H1 locs1 (cells + mc) (slots + ms) Q (F0 m pc ls rest) q9)
    (kk : ∀ (r : Int64) (u : S) (t : State) (H1 : Heap) (locs1 : List Loc), t.heap = H1 → s.vm.Alike t.vm → post r u → B u t → H.size ≤ H1.size → (∀ q : Nat, q < H.size → ¬ A1 q → H1[q]? = H[q]?) → va_S A0 H0 H1 locs1 → W p l e R s m args below meth c H1 locs1 (cells + mc) (slots + ms) Q (F0 m (pc + 3) ls (.long r :: rest))) : W p l e R s m args below meth c H locs cells slots Q (F0 m pc ls st0) := by
  intro T hT X
  rcases hr T hT X with ⟨v, st₀, t, T', L, h0, X', hL, e1, e2, ⟨⟨r, u, hv, hp, hb⟩, hF⟩, st⟩ | ⟨q, st₀, t, T', L, E, ce, h0, X', hL, e1, e2, ⟨u, hp, hb, hF⟩, hce, hcv, hcl, st⟩
  · cases hv
    obtain ⟨k1, k2, k3⟩ := vx_keep h0 e1 hS hA hf hL hF
    obtain ⟨t2, a1, b1⟩ := kk r u t T'.heap (locs ++ L) e1.symm (by rw [← e2]; exact X'.warmed.alike) hp hb k1 k2 k3 T' rfl X'
    exact ⟨t2, st t2 a1, b1⟩
  · obtain ⟨k1, k2, k3⟩ := vx_keep h0 e1 hS hAX hf hL hF
    obtain ⟨t2, a1, b1⟩ := kx E ce q u t T'.heap (locs ++ L) e1.symm (by rw [← e2]; exact X'.warmed.alike) hp hb k1 k2 k3 (by rw [e1]; exact hce) hcv hcl T' rfl X'
    exact ⟨t2, st.trans a1, b1⟩
theorem vx_callf {S SX : Type} {post : UInt32 → S → Prop} {px : SX → Prop} {B : S → State → Prop} {BX : String → SX → State → Prop} {AX : Nat → Prop} (hr : vx_Run p l e R s m args below meth c H locs cells slots mc ms (F0 m pc ls st0) rest (va_Qf post B A1 a) (vx_X px BX AX) free) (hS : va_S A0 H0 H locs) (hA : ∀ q, q < H.size → A1 q → A0 q) (hf : ∀ q, free q → A0 q) (hAX : ∀ q, q < H.size → AX q → A0 q)
    (kx : ∀ (E : String) (ce : Cell) (q9 : Addr) (u : SX) (t : State) (H1 : Heap) (locs1 : List Loc), t.heap = H1 → s.vm.Alike t.vm → px u → BX E u t → H.size ≤ H1.size → (∀ q : Nat, q < H.size → ¬ AX q → H1[q]? = H[q]?) → va_S A0 H0 H1 locs1 → H1[q9]? = some ce → ce.vm = .none → s.vm.findClass E = some ce.cls → vx_W p l e R s m args below meth c H1 locs1 (cells + mc) (slots + ms) Q (F0 m pc ls rest) q9)
    (kk : ∀ (r : UInt32) (u : S) (t : State) (H1 : Heap) (locs1 : List Loc), t.heap = H1 → s.vm.Alike t.vm → post r u → B u t → H.size ≤ H1.size → (∀ q : Nat, q < H.size → ¬ A1 q → H1[q]? = H[q]?) → va_S A0 H0 H1 locs1 → W p l e R s m args below meth c H1 locs1 (cells + mc) (slots + ms) Q (F0 m (pc + 3) ls (.float r :: rest))) : W p l e R s m args below meth c H locs cells slots Q (F0 m pc ls st0) := by
  intro T hT X
  rcases hr T hT X with ⟨v, st₀, t, T', L, h0, X', hL, e1, e2, ⟨⟨r, u, hv, hp, hb⟩, hF⟩, st⟩ | ⟨q, st₀, t, T', L, E, ce, h0, X', hL, e1, e2, ⟨u, hp, hb, hF⟩, hce, hcv, hcl, st⟩
  · cases hv
    obtain ⟨k1, k2, k3⟩ := vx_keep h0 e1 hS hA hf hL hF
    obtain ⟨t2, a1, b1⟩ := kk r u t T'.heap (locs ++ L) e1.symm (by rw [← e2]; exact X'.warmed.alike) hp hb k1 k2 k3 T' rfl X'
    exact ⟨t2, st t2 a1, b1⟩
  · obtain ⟨k1, k2, k3⟩ := vx_keep h0 e1 hS hAX hf hL hF
    obtain ⟨t2, a1, b1⟩ := kx E ce q u t T'.heap (locs ++ L) e1.symm (by rw [← e2]; exact X'.warmed.alike) hp hb k1 k2 k3 (by rw [e1]; exact hce) hcv hcl T' rfl X'
    exact ⟨t2, st.trans a1, b1⟩
theorem vx_calld {S SX : Type} {post : UInt64 → S → Prop} {px : SX → Prop} {B : S → State → Prop} {BX : String → SX → State → Prop} {AX : Nat → Prop} (hr : vx_Run p l e R s m args below meth c H locs cells slots mc ms (F0 m pc ls st0) rest (va_Qd post B A1 a) (vx_X px BX AX) free) (hS : va_S A0 H0 H locs) (hA : ∀ q, q < H.size → A1 q → A0 q) (hf : ∀ q, free q → A0 q) (hAX : ∀ q, q < H.size → AX q → A0 q)
    (kx : ∀ (E : String) (ce : Cell) (q9 : Addr) (u : SX) (t : State) (H1 : Heap) (locs1 : List Loc), t.heap = H1 → s.vm.Alike t.vm → px u → BX E u t → H.size ≤ H1.size → (∀ q : Nat, q < H.size → ¬ AX q → H1[q]? = H[q]?) → va_S A0 H0 H1 locs1 → H1[q9]? = some ce → ce.vm = .none → s.vm.findClass E = some ce.cls → vx_W p l e R s m args below meth c H1 locs1 (cells + mc) (slots + ms) Q (F0 m pc ls rest) q9)
    (kk : ∀ (r : UInt64) (u : S) (t : State) (H1 : Heap) (locs1 : List Loc), t.heap = H1 → s.vm.Alike t.vm → post r u → B u t → H.size ≤ H1.size → (∀ q : Nat, q < H.size → ¬ A1 q → H1[q]? = H[q]?) → va_S A0 H0 H1 locs1 → W p l e R s m args below meth c H1 locs1 (cells + mc) (slots + ms) Q (F0 m (pc + 3) ls (.double r :: rest))) : W p l e R s m args below meth c H locs cells slots Q (F0 m pc ls st0) := by
  intro T hT X
  rcases hr T hT X with ⟨v, st₀, t, T', L, h0, X', hL, e1, e2, ⟨⟨r, u, hv, hp, hb⟩, hF⟩, st⟩ | ⟨q, st₀, t, T', L, E, ce, h0, X', hL, e1, e2, ⟨u, hp, hb, hF⟩, hce, hcv, hcl, st⟩
  · cases hv
    obtain ⟨k1, k2, k3⟩ := vx_keep h0 e1 hS hA hf hL hF
    obtain ⟨t2, a1, b1⟩ := kk r u t T'.heap (locs ++ L) e1.symm (by rw [← e2]; exact X'.warmed.alike) hp hb k1 k2 k3 T' rfl X'
    exact ⟨t2, st t2 a1, b1⟩
  · obtain ⟨k1, k2, k3⟩ := vx_keep h0 e1 hS hAX hf hL hF
    obtain ⟨t2, a1, b1⟩ := kx E ce q u t T'.heap (locs ++ L) e1.symm (by rw [← e2]; exact X'.warmed.alike) hp hb k1 k2 k3 (by rw [e1]; exact hce) hcv hcl T' rfl X'
    exact ⟨t2, st.trans a1, b1⟩
theorem vx_callv {S SX : Type} {post : S → Prop} {px : SX → Prop} {B : S → State → Prop} {BX : String → SX → State → Prop} {AX : Nat → Prop} (hr : vx_Run p l e R s m args below meth c H locs cells slots mc ms (F0 m pc ls st0) rest (va_Qv post B A1 a) (vx_X px BX AX) free) (hS : va_S A0 H0 H locs) (hA : ∀ q, q < H.size → A1 q → A0 q) (hf : ∀ q, free q → A0 q) (hAX : ∀ q, q < H.size → AX q → A0 q)
    (kx : ∀ (E : String) (ce : Cell) (q9 : Addr) (u : SX) (t : State) (H1 : Heap) (locs1 : List Loc), t.heap = H1 → s.vm.Alike t.vm → px u → BX E u t → H.size ≤ H1.size → (∀ q : Nat, q < H.size → ¬ AX q → H1[q]? = H[q]?) → va_S A0 H0 H1 locs1 → H1[q9]? = some ce → ce.vm = .none → s.vm.findClass E = some ce.cls → vx_W p l e R s m args below meth c H1 locs1 (cells + mc) (slots + ms) Q (F0 m pc ls rest) q9)
    (kk : ∀ (u : S) (t : State) (H1 : Heap) (locs1 : List Loc), t.heap = H1 → s.vm.Alike t.vm → post u → B u t → H.size ≤ H1.size → (∀ q : Nat, q < H.size → ¬ A1 q → H1[q]? = H[q]?) → va_S A0 H0 H1 locs1 → W p l e R s m args below meth c H1 locs1 (cells + mc) (slots + ms) Q (F0 m (pc + 3) ls (rest))) : W p l e R s m args below meth c H locs cells slots Q (F0 m pc ls st0) := by
  intro T hT X
  rcases hr T hT X with ⟨v, st₀, t, T', L, h0, X', hL, e1, e2, ⟨⟨u, hv, hp, hb⟩, hF⟩, st⟩ | ⟨q, st₀, t, T', L, E, ce, h0, X', hL, e1, e2, ⟨u, hp, hb, hF⟩, hce, hcv, hcl, st⟩
  · cases hv
    obtain ⟨k1, k2, k3⟩ := vx_keep h0 e1 hS hA hf hL hF
    obtain ⟨t2, a1, b1⟩ := kk u t T'.heap (locs ++ L) e1.symm (by rw [← e2]; exact X'.warmed.alike) hp hb k1 k2 k3 T' rfl X'
    exact ⟨t2, st t2 a1, b1⟩
  · obtain ⟨k1, k2, k3⟩ := vx_keep h0 e1 hS hAX hf hL hF
    obtain ⟨t2, a1, b1⟩ := kx E ce q u t T'.heap (locs ++ L) e1.symm (by rw [← e2]; exact X'.warmed.alike) hp hb k1 k2 k3 (by rw [e1]; exact hce) hcv hcl T' rfl X'
    exact ⟨t2, st.trans a1, b1⟩
/-- caught by the row x of this method's table; the rows ahead don't take it -/
theorem vx_catch {own name : String} {E : String} {ce : Cell} {q : Addr} (hown : s.vm.findClass own = some m.cls) (pre : List ExceptionTableEntry) (x : ExceptionTableEntry) (suf : List ExceptionTableEntry) (hsplit : c.exceptionTable.toList = pre ++ x :: suf)
    (hpass : ∀ z ∈ pre, covers z pc = false ∨ (z.catchType ≠ 0 ∧ ∃ nm : String, (Cond.classLink own z.catchType nm).before args s = true ∧ va_Nc E nm s)) (hx : covers x pc = true) (h0 : x.catchType ≠ 0)
    (hlink : (Cond.classLink own x.catchType name).before args s = true) (hcast : (Cond.castable E name).before args s = true) (hcell : H[q]? = some ce) (hv : ce.vm = .none) (hcl : s.vm.findClass E = some ce.cls)
    (kk : W p l e R s m args below meth c H locs cells slots Q (F0 m x.handlerPc ls [.ref q])) : vx_W p l e R s m args below meth c H locs cells slots Q (F0 m pc ls rest) q := by
  intro T hT X
  have hpl : e.platform.magicAccessors = ({} : Platform).magicAccessors := by rw [X.admits.platform]
  obtain ⟨c3, c4, hc3, hc4, hasg⟩ := Cond.castable_spec hcast
  cases Option.some.inj (hc3.symm.trans hcl)
  obtain ⟨c5, hc5, hcl5⟩ := Cond.classLink_spec hown hlink e.platform hpl
  cases Option.some.inj (hc4.symm.trans hc5)
  obtain ⟨vm', X', st⟩ := X.thenCaughtThrough q (g := F0 m pc ls rest) rfl (Steps.refl _) (by rw [hT]; exact hcell) (by rw [hv]; rfl) (by obtain ⟨k9, h9, -⟩ := Vm.findClass_spec hcl; exact ⟨k9, h9⟩) pre x suf hsplit
    (fun z hz => by
      rcases hpass z hz with h | ⟨hz0, nm, hl1, hn1⟩
      · exact Or.inl h
      · obtain ⟨c6, hc6, hcl6⟩ := Cond.classLink_spec hown hl1 e.platform hpl
        obtain ⟨a8, b8, h1, h2, h3⟩ := hn1
        cases Option.some.inj (h1.symm.trans hcl)
        cases Option.some.inj (h2.symm.trans hc6)
        exact Or.inr ⟨hz0, _, hcl6, h3⟩) hx (Or.inr ⟨h0, c4, hcl5, hasg⟩)
  obtain ⟨t, a1, b1⟩ := kk (T.setVm vm') hT X'
  exact ⟨t, st.trans a1, b1⟩
end Rows
section Ends
variable {p : Program} {l : Launch} {e : Env} {R : Room} {s : State} {m : MethodId} {args : Array Value} {below : List Frame} {meth : Method} {c : Code} {H : Heap} {locs : List Loc} {cells slots : Nat} {Q : State → Prop}
variable {mc ms : Nat} {free : Addr → Prop} {A0 A1 : Nat → Prop} {H0 : Heap} {a : Array Value} {ls : Array Slot} {st0 rest : List Value}
variable {Qc : Array Value → State → Outcome → State → Prop} {XC : String → State → State → Prop}
/-- what a body that may throw owes at its end -/
def vx_MQ (below : List Frame) (Qc : Array Value → State → Outcome → State → Prop) (XC : String → State → State → Prop) (a : Array Value) (s : State) (mc ms : Nat) (free : Addr → Prop) : State → Prop := fun t =>
  ∃ o, t.status = .running ∧ Ended t below o ∧ vx_Q Qc XC mc ms free a s o t
theorem vx_ret {g : JFrame} {mc ms : Nat} (k : W p l e R s m args below meth c H locs cells slots (MQ below Qc args s mc ms free) g) : W p l e R s m args below meth c H locs cells slots (vx_MQ below Qc XC args s mc ms free) g := by
  intro T hT X
  obtain ⟨t, a1, o, b1, b2, b3, b4⟩ := k T hT X
  exact ⟨t, a1, o, b1, b2, Or.inl ⟨b3, b4⟩⟩
/-- not caught here: it goes on to the caller -/
theorem vx_widen {g : JFrame} {q : Addr} {k n : Nat} (h1 : cells ≤ k) (h2 : slots ≤ n) (kk : vx_W p l e R s m args below meth c H locs k n Q g q) : vx_W p l e R s m args below meth c H locs cells slots Q g q := fun T hT X => kk T hT (stand_widen X h1 h2)
theorem vx_out {pc : Nat} {E : String} {ce : Cell} {q : Addr} {mc ms : Nat} (hout : ∀ x ∈ c.exceptionTable.toList, covers x pc = false) (hlocks : meth.locks = false) (hcell : H[q]? = some ce) (hv : ce.vm = .none) (hcl : s.vm.findClass E = some ce.cls)
    (hx : ∀ t : State, t.heap = H → s.vm.Alike t.vm → XC E s t) (hf : ∀ z ∈ locs, free z.base) (hc : cells ≤ mc) (hs : slots ≤ ms) :
    vx_W p l e R s m args below meth c H locs cells slots (vx_MQ below Qc XC args s mc ms free) (F0 m pc ls rest) q := by
  intro T hT X
  obtain ⟨st1, hrun, hend, hW, hsm⟩ := X.leaveThrown q (g := F0 m pc ls rest) rfl rfl rfl hout hlocks
  have hcell9 : (T.setFrames (.throwing q :: below)).heap[q]? = some ce := by
    show T.heap[q]? = some ce
    rw [hT]; exact hcell
  exact ⟨_, st1, .threw q, hrun, hend, Or.inr ⟨q, rfl, E, ce, locs, hx _ hT hW.alike, hcell9, hv, hcl, hW, hsm.mono hc hs, hf⟩⟩
theorem vx_frame {U : State} {k n : Nat} (h : s.sameButNew ({ U with vm := s.vm } : State) locs k n) : s.heap.size ≤ U.heap.size ∧ ∀ q : Nat, q < s.heap.size → (∀ z ∈ locs, z.base ≠ q) → U.heap[q]? = s.heap[q]? := by
  obtain ⟨-, h2, -, -, -, h6⟩ := h
  refine ⟨h2, fun q hq hz => ?_⟩
  obtain ⟨c9, e1, e2, e3, e4⟩ := h6 q _ (Array.getElem?_eq_getElem hq)
  have hs : c9.slots = (s.heap[q]).slots := Array.ext_getElem? fun i => e4 i fun hm => hz _ hm rfl
  have h9 : c9 = s.heap[q] := by
    rw [hs] at e2
    exact e2
  have e5 : U.heap[q]? = some c9 := e1
  rw [e5, h9, Array.getElem?_eq_getElem hq]
/-- the words of a throw but the four that speak of the heap -/
def vx_no (w : Cond) : Bool := decide (w ≠ .isRef (.static Bundle.tN "UNASSIGNED_STACK" Bundle.steD)) && decide (w ≠ .isRef (.static Bundle.tN "SUPPRESSED_SENTINEL" Bundle.listD)) && decide (w ≠ .laysStatic Bundle.tN "UNASSIGNED_STACK" Bundle.steD) && decide (w ≠ .laysStatic Bundle.tN "SUPPRESSED_SENTINEL" Bundle.listD)
def vx_at0 (own : String) (ic : Nat) (X : String) (names : List String) : List Cond := (Bundle.ownAtoms0 own ic X names).filter vx_no
def vx_atS (own : String) (ic : Nat) (X : String) (names : List String) : List Cond := (Bundle.ownAtoms own ic X names).filter vx_no
/-- a word that the tables alone decide, or a good one -/
def vx_ot (w : Cond) : Bool := w.onTables || goodWord w
theorem vx_ot_at {args a' : Array Value} {s U : State} {w : Cond} (hW : s.WarmedH U.vm) (hvm : s.vm = U.vm) (hg : vx_ot w = true) (h : w.before args s = true) : w.before a' U = true := by
  simp only [vx_ot, Bool.or_eq_true] at hg
  rcases hg with hg | hg
  · exact va_tabs hg hvm h
  · exact word_at hW (good_of_word hg) h
/-- a list's words: the good ones out of the method's own list, the others by premises of their own -/
theorem vx_hat {args : Array Value} {s : State} {L B : List Cond} (h1 : ∀ w ∈ L.filter goodWord, w.before args s = true) (h2 : ∀ w ∈ L.filter (fun w => !goodWord w), w ∈ B) (h3 : ∀ w ∈ B, w.before args s = true) : ∀ w ∈ L, w.before args s = true := by
  intro w hw
  by_cases g : goodWord w = true
  · exact h1 w (List.mem_filter.mpr ⟨hw, g⟩)
  · refine h3 w (h2 w (List.mem_filter.mpr ⟨hw, ?_⟩))
    show (!goodWord w) = true
    cases hgw : goodWord w
    · rfl
    · exact absurd hgw g
theorem vx_c {args : Array Value} {s : State} {w : Cond} {B : List Cond} (h : w.before args s = true) (t : ∀ w ∈ B, w.before args s = true) : ∀ w' ∈ w :: B, w'.before args s = true := fun w' h' => (List.mem_cons.mp h').elim (fun e => by rw [e]; exact h) (t w')
theorem vx_n {args : Array Value} {s : State} : ∀ w ∈ ([] : List Cond), w.before args s = true := fun _ h => nomatch h
theorem vx_own {args : Array Value} {s : State} {L : List Cond} (h1 : ∀ w ∈ L.filter vx_no, w.before args s = true)
    (hU : (Cond.isRef (.static Bundle.tN "UNASSIGNED_STACK" Bundle.steD)).before args s = true) (hN : (Cond.isRef (.static Bundle.tN "SUPPRESSED_SENTINEL" Bundle.listD)).before args s = true)
    (lU : (Cond.laysStatic Bundle.tN "UNASSIGNED_STACK" Bundle.steD).before args s = true) (lN : (Cond.laysStatic Bundle.tN "SUPPRESSED_SENTINEL" Bundle.listD).before args s = true) : ∀ w ∈ L, w.before args s = true := by
  intro w hw
  by_cases e1 : w = .isRef (.static Bundle.tN "UNASSIGNED_STACK" Bundle.steD)
  · rw [e1]; exact hU
  · by_cases e2 : w = .isRef (.static Bundle.tN "SUPPRESSED_SENTINEL" Bundle.listD)
    · rw [e2]; exact hN
    · by_cases e3 : w = .laysStatic Bundle.tN "UNASSIGNED_STACK" Bundle.steD
      · rw [e3]; exact lU
      · by_cases e4 : w = .laysStatic Bundle.tN "SUPPRESSED_SENTINEL" Bundle.listD
        · rw [e4]; exact lN
        · exact h1 w (List.mem_filter.mpr ⟨hw, by unfold vx_no; rw [decide_eq_true e1, decide_eq_true e2, decide_eq_true e3, decide_eq_true e4]; rfl⟩)
/-- where a static field lies, its class's statics cell in H -/
def vx_L (C n d : String) (A : Nat → Prop) (U : State) (H : Heap) : Prop := ∃ (c : ClassId) (k : Class) (i : Nat) (f : Field) (a : Nat) (cell : Cell), U.vm.findClass C = some c ∧ U.fieldFound? C n d = some (c, k, i, f) ∧ f.isStatic = true ∧ k.statics = some a ∧ H[a]? = some cell ∧ cell.vm.isStatics = true ∧ cell.cls = c ∧ f.slot < cell.slots.size ∧ k.staticTypes[f.slot]? = some f.type ∧ ¬ A a
theorem vx_L.moved {C n d : String} {A : Nat → Prop} {u U : State} {H : Heap} (hvm : u.vm.Alike U.vm) (h : vx_L C n d A u H) : vx_L C n d A U H := by
  obtain ⟨c, k, i, f, a, cell, h1, h2, h3, h4, h5, h6, h7, h8, h9, h10⟩ := h
  obtain ⟨k', hi', he⟩ := State.fieldFound?_setVm hvm h2
  exact ⟨c, k', i, f, a, cell, by rw [hvm.findClass]; exact h1, hi', h3, by rw [he]; exact h4, h5, h6, h7, h8, by rw [he]; exact h9, h10⟩
theorem vx_L.kept {C n d : String} {A : Nat → Prop} {U : State} {H H1 : Heap} (h : vx_L C n d A U H) (hq : ∀ a : Nat, a < H.size → ¬ A a → H1[a]? = H[a]?) : vx_L C n d A U H1 := by
  obtain ⟨c, k, i, f, a, cell, h1, h2, h3, h4, h5, h6, h7, h8, h9, h10⟩ := h
  exact ⟨c, k, i, f, a, cell, h1, h2, h3, h4, by rw [hq a (Array.getElem?_eq_some_iff.mp h5).1 h10]; exact h5, h6, h7, h8, h9, h10⟩
theorem vx_L.narrow {C n d : String} {A B : Nat → Prop} {U : State} {H : Heap} (h : vx_L C n d A U H) (hAB : ∀ q, B q → A q) : vx_L C n d B U H := by
  obtain ⟨c, k, i, f, a, cell, h1, h2, h3, h4, h5, h6, h7, h8, h9, h10⟩ := h
  exact ⟨c, k, i, f, a, cell, h1, h2, h3, h4, h5, h6, h7, h8, h9, fun z => h10 (hAB _ z)⟩
theorem vx_L.word {C n d : String} {A : Nat → Prop} {s : State} {args : Array Value} (h : vx_L C n d A s s.heap) : (Cond.laysStatic C n d).before args s = true := by
  obtain ⟨c, k, i, f, a, cell, h1, h2, h3, h4, h5, h6, h7, h8, h9, -⟩ := h
  show (Cond.laysStatic C n d).holds args s none s [] = true
  exact Cond.laysStatic_of h1 h2 h3 h4 h5 h6 h7 h8 h9
/-- .. and what it holds: null or some reference -/
def vx_Zq (C n d : String) (A : Nat → Prop) (U : State) (H : Heap) : Prop := va_Zq C n d A U H ∧ vx_L C n d A U H
theorem vx_Zq.moved {C n d : String} {A : Nat → Prop} {u U : State} {H : Heap} (hvm : u.vm.Alike U.vm) (h : vx_Zq C n d A u H) : vx_Zq C n d A U H := ⟨va_Zq.moved hvm h.1, vx_L.moved hvm h.2⟩
theorem vx_Zq.kept {C n d : String} {A : Nat → Prop} {U : State} {H H1 : Heap} (h : vx_Zq C n d A U H) (hq : ∀ a : Nat, a < H.size → ¬ A a → H1[a]? = H[a]?) : vx_Zq C n d A U H1 := ⟨va_Zq.kept h.1 hq, vx_L.kept h.2 hq⟩
theorem vx_Zq.narrow {C n d : String} {A B : Nat → Prop} {U : State} {H : Heap} (h : vx_Zq C n d A U H) (hAB : ∀ q, B q → A q) : vx_Zq C n d B U H := ⟨va_Zq.narrow h.1 hAB, vx_L.narrow h.2 hAB⟩
theorem vx_Zqof {args : Array Value} {s : State} {C n d : String} {A : Nat → Prop} (hl : (Cond.laysStatic C n d).before args s = true) (hini : (Cond.initialized C).before args s = true) (h : (Cond.isRef (.static C n d)).before args s = true) (hA : ∀ a : Nat, a < s.heap.size → ¬ A a) : vx_Zq C n d A s s.heap := by
  refine ⟨va_Zqof hl hini h hA, ?_⟩
  obtain ⟨c, k, i, f, a, cell, h1, h2, h3, h4, h5, h6, h7, h8, h9⟩ := Cond.laysStatic_spec hl
  exact ⟨c, k, i, f, a, cell, h1, h2, h3, h4, h5, h6, h7, h8, h9, hA a (Array.getElem?_eq_some_iff.mp h5).1⟩
theorem vx_isRef {C n d : String} {v : Value} {A : Nat → Prop} {s : State} {args : Array Value} (h : va_Z C n d v A s s.heap) (hv : v.isRef = true) : (Cond.isRef (.static C n d)).before args s = true := by
  obtain ⟨cf, kf, fi, f, a, cell, h1, h2, h3, h4, h5, h6, h7, -⟩ := h
  have he : (Term.static C n d).eval args s none [] s = some v := by
    simp [Term.eval, State.fieldNamed?, h1, h2, h4, h5, h6, h7]
  simp only [Cond.before, Cond.holds, Cond.value, he]
  cases v <;> simp_all [Value.isRef]
theorem vx_isRefq {C n d : String} {A : Nat → Prop} {s : State} {args : Array Value} (h : va_Zq C n d A s s.heap) : (Cond.isRef (.static C n d)).before args s = true := by
  rcases h with h | ⟨t, h⟩
  · exact vx_isRef h rfl
  · exact vx_isRef h rfl
/-- the same frame, seen from here: as if the method were called anew in this heap -/
theorem vx_rebase {T : State} (X : Stand p l e R s m args below meth c T locs cells slots) {R' : Room} (hf : R'.frames ≤ R.frames) (hl : R'.locals ≤ R.locals) (hc : cells + R'.cells ≤ R.cells) (hs : slots + R'.slots ≤ R.slots) :
    Stand p l e R' ((T.setVm s.vm).setFrames (.invoking m args :: below)) m args below meth c T [] 0 0 := by
  have htop : (T.setVm s.vm).topJava?.isSome := X.here.top
  have hF : ((T.setVm s.vm).setFrames (.invoking m args :: below)).frames = .invoking m args :: below := State.frames_setFrames _ (State.cur_lt_of_top htop)
  obtain ⟨g₀, hg0⟩ := Option.isSome_iff_exists.mp htop
  obtain ⟨r, hr⟩ := State.topJava?_eq_some.mp hg0
  have hl9 : e.platform.stackLimits (T.setVm s.vm).me = e.platform.stackLimits s.me := X.limits
  have hb9 : (T.setVm s.vm).me.stackBytes = s.me.stackBytes := X.bytes
  refine ⟨X.admits, X.cas, X.clock, hF, ?_, X.hears, X.method, X.code, X.here, X.tail, X.warmed, ?_, ?_, ?_⟩
  · have h := X.room
    have hU : ((T.setVm s.vm).setFrames (.invoking m args :: below)).localsInUse = s.localsInUse := by
      rw [State.localsInUse_invoking hF (meth := meth) (c := c) X.method X.code, State.localsInUse_invoking X.frames X.method X.code]
    simp only [State.hasRoom, Bool.and_eq_true, decide_eq_true_eq] at h ⊢
    obtain ⟨⟨⟨⟨h1, h2, h3, h4, h5, h6⟩, h7⟩, h8⟩, h9⟩ := h
    rw [X.frames, List.length_cons] at h2 h3
    have q1 := X.heapSize
    have q2 := X.used
    simp only [hF, hU, List.length_cons, State.stackLimits_setFrames, State.stackBytes_setFrames, hl9, hb9]
    refine ⟨⟨⟨⟨by omega, by omega, by omega, by omega, by omega, h6⟩, ?_⟩, ?_⟩, X.book⟩
    · show T.heap.size + R'.cells ≤ e.platform.maxCells
      omega
    · show T.slotsUsed + R'.slots ≤ e.platform.maxSlots
      omega
  · rw [State.stackLimits_setFrames]; rfl
  · rw [State.stackBytes_setFrames]; rfl
  · refine ⟨?_, Nat.le_refl _, Nat.le_refl _, ?_, ?_, fun a c9 h9 => ⟨c9, h9, rfl, rfl, fun _ _ => rfl⟩⟩
    · obtain ⟨t, ht, -⟩ := State.frames_cons hr
      show T.setVm s.vm = { ((T.setVm s.vm).setFrames (.invoking m args :: below)).setFrames (T.setVm s.vm).frames with heap := T.heap, slotsUsed := T.slotsUsed }
      rw [State.setFrames_setFrames, State.setFrames_self ht]
      rfl
    · show T.slotsUsed = T.slotsUsed + ((T.heap.toList.drop T.heap.size).map (·.slots.size)).sum
      rw [List.drop_eq_nil_of_le (Nat.le_of_eq Array.length_toList)]
      rfl
    · show ((T.heap.toList.drop T.heap.size).map (·.slots.size)).sum ≤ 0
      rw [List.drop_eq_nil_of_le (Nat.le_of_eq Array.length_toList)]
      exact Nat.le_refl _
/-- 'throw new E()': new; dup; invokespecial; athrow -/
theorem vx_throw0 {cc : ByteArray} {pc : Nat} (hexec : p.tables.exec = Jvm.exec) (hb : c.code = cc) (hl : l.stackTraces = false) {own cls : String} {names : List String} {ik ic mc ms : Nat} {A : Nat → Prop}
    (hown : s.vm.findClass own = some m.cls) (hcls : Bundle.fit cls = true) (hnames : ∀ n ∈ names, Bundle.fit n = true)
    (hk : (Cond.classLink own ik cls).before args s = true) (hini : (Cond.initialized cls).before args s = true) (hat : ∀ w ∈ vx_at0 own ic cls names, w.before args s = true)
    (hgood : ∀ w ∈ Cond.classLink own ik cls :: Cond.initialized cls :: vx_at0 own ic cls names, vx_ot w = true)
    (hU : vx_Zq Bundle.tN "UNASSIGNED_STACK" Bundle.steD A s s.heap) (hN : vx_Zq Bundle.tN "SUPPRESSED_SENTINEL" Bundle.listD A s s.heap) (hS : va_S A s.heap H locs) (hsize : ls.size = c.maxLocals)
    (d0 : decode cc pc = .ok (.new ik, 3)) (d3 : decode cc (pc + 3) = .ok (.dup, 1)) (d4 : decode cc (pc + 4) = .ok (.invokespecial ic, 3)) (d7 : decode cc (pc + 7) = .ok (.athrow, 1))
    (hout : ∀ x ∈ c.exceptionTable.toList, covers x (pc + 7) = false)
    (hRframes : names.length + 3 < R.frames) (hRlocals : (rest.map fun v => v.category).sum + (13 * (names.length + 1) + 42) ≤ R.locals) (hRcells : cells + 1 ≤ R.cells) (hRslots : slots + 6 ≤ R.slots) (hlocks : meth.locks = false)
    (hx : ∀ t : State, s.vm.Alike t.vm → H.size ≤ t.heap.size → (∀ q : Nat, q < H.size → t.heap[q]? = H[q]?) → XC cls s t)
    (hf : ∀ z ∈ locs, free z.base) (hc : cells + 1 ≤ mc) (hs : slots + 6 ≤ ms) :
    W p l e R s m args below meth c H locs cells slots (vx_MQ below Qc XC args s mc ms free) (F0 m pc ls rest) := by
  intro T hT X
  have htr : e.platform.stackTraces = false := (show e.platform.stackTraces = l.stackTraces by rw [X.admits.platform]).trans hl
  have Y := vx_rebase X (R' := { frames := R.frames, locals := R.locals, cells := 1, slots := 6 }) (Nat.le_refl _) (Nat.le_refl _) hRcells hRslots
  obtain ⟨s', hA⟩ : ∃ z, z = (T.setVm s.vm).setFrames (.invoking m args :: below) := ⟨_, rfl⟩
  rw [← hA] at Y
  have hvm : s'.vm = s.vm := by rw [hA]; rfl
  have hhp : s'.heap = H := by rw [hA]; exact hT
  have hW0 : s.WarmedH s'.vm := by rw [hvm]; exact State.WarmedH.refl s
  have hat' : ∀ w ∈ vx_at0 own ic cls names, w.before args s' = true := fun w hw => vx_ot_at hW0 hvm.symm (hgood w (List.mem_cons_of_mem _ (List.mem_cons_of_mem _ hw))) (hat w hw)
  have hk' : (Cond.classLink own ik cls).before args s' = true := vx_ot_at hW0 hvm.symm (hgood _ List.mem_cons_self) hk
  have hini' : (Cond.initialized cls).before args s' = true := vx_ot_at hW0 hvm.symm (hgood _ (List.mem_cons_of_mem _ List.mem_cons_self)) hini
  have hU' : vx_Zq Bundle.tN "UNASSIGNED_STACK" Bundle.steD A s' s'.heap := by rw [hhp]; exact vx_Zq.moved hW0.alike (hU.kept hS.2.1)
  have hN' : vx_Zq Bundle.tN "SUPPRESSED_SENTINEL" Bundle.listD A s' s'.heap := by rw [hhp]; exact vx_Zq.moved hW0.alike (hN.kept hS.2.1)
  have h : ∀ w ∈ Bundle.ownAtoms0 own ic cls names, w.before args s' = true := vx_own hat' (vx_isRefq hU'.1) (vx_isRefq hN'.1) hU'.2.word hN'.2.word
  have hown' : s'.vm.findClass own = some m.cls := by rw [hvm]; exact hown
  have hins : (Cond.instantiable cls 6).before args s' = true := h _ (by simp [Bundle.ownAtoms0])
  obtain ⟨vm₁, cX, kX, hfX, hkX, -, -, X₁, st1⟩ := Y.newCold hexec (own := own) (C := cls) (index := ik) (n := 6) hown' hk' hins hini'
    (g := F0 m pc ls rest) rfl (by rw [hb]; exact d0) (Nat.le_refl _) (Nat.le_refl _)
  generalize hT1 : (T.setVm vm₁).pushCell { cls := cX, slots := kX.instanceTypes.map defaultValue, vm := .none } = T1 at X₁ st1
  have hcat : (Value.ref T.heap.size).category = 1 := rfl
  have hcellA : T1.heap[T.heap.size]? = some (freshCell cX kX) := by rw [← hT1]; exact State.heap_pushCell_size _ _
  have d3' : decode c.code (pc + 3) = .ok (.dup, 1) := by rw [hb]; exact d3
  obtain ⟨U, hsteps, hrun, hend, hW, hsame, ce, hce, hO⟩ := X₁.ctorThrow0 hexec htr (own := own) (cls := cls) (names := names) (ic := ic) hown' hcls hnames h (fun x hx => nomatch hx) hfX hkX hcellA (by rw [hhp, hT]; exact Nat.le_refl _)
    (g := { method := m, pc := pc + 4, locals := ls, stack := .ref T.heap.size :: .ref T.heap.size :: rest, locked := none }) rfl hsize rfl rfl (rest := rest) rfl
    (by rw [hb]; exact d4) (by rw [hb]; exact d7) hout hRframes (by simp only [List.map_cons, List.sum_cons, hcat]; omega) hlocks
  obtain ⟨f1, f2⟩ := vx_frame hsame
  rw [hhp] at f1 f2
  have hWs : s.WarmedH U.vm := State.WarmedH.trans hW0 hW
  have hcl : s.vm.findClass cls = some ce.cls := by
    have h9 := hO.cls
    rw [hvm] at h9
    exact h9
  have hall : s.sameButNew ({ U with vm := s.vm } : State) locs mc ms := by
    subst hA
    obtain ⟨e1, e2⟩ := hsame
    rw [State.setFrames_setFrames] at e1
    have h2 : (T.setVm s.vm).sameButNew ({ U with vm := s.vm } : State) [] (0 + 1) (0 + 6) := ⟨e1, e2⟩
    have h3 := X.same.trans h2
    rw [List.append_nil] at h3
    exact h3.mono hc hs
  refine ⟨U, ?_, .threw T.heap.size, hrun, hend, Or.inr ⟨T.heap.size, rfl, cls, ce, locs, hx U hWs.alike f1 (fun q hq => f2 q hq (fun z hz => nomatch hz)), hce, hO.vm, hcl, hWs, hall, hf⟩⟩
  refine st1 _ ?_
  show Steps p.tables e below (T1.setTop { method := m, pc := pc + 3, locals := ls, stack := .ref T.heap.size :: rest, locked := none }) _
  jvm_step X₁.here [X₁.here.top, hexec, d3', Value.category]
  exact hsteps
/-- 'throw new E("text")': new; dup; ldc; invokespecial; athrow -/
theorem vx_throwS {cc : ByteArray} {pc : Nat} (hexec : p.tables.exec = Jvm.exec) (hb : c.code = cc) (hl : l.stackTraces = false) {own cls text : String} {names : List String} {ik is ic mc ms sa : Nat} {A : Nat → Prop}
    (hown : s.vm.findClass own = some m.cls) (hcls : Bundle.fit cls = true) (hnames : ∀ n ∈ names, Bundle.fit n = true)
    (hk : (Cond.classLink own ik cls).before args s = true) (hini : (Cond.initialized cls).before args s = true) (hstr : vk_R own is text sa s) (hat : ∀ w ∈ vx_atS own ic cls names, w.before args s = true)
    (hgood : ∀ w ∈ Cond.classLink own ik cls :: Cond.initialized cls :: vx_atS own ic cls names, vx_ot w = true)
    (hU : vx_Zq Bundle.tN "UNASSIGNED_STACK" Bundle.steD A s s.heap) (hN : vx_Zq Bundle.tN "SUPPRESSED_SENTINEL" Bundle.listD A s s.heap) (hS : va_S A s.heap H locs) (hsize : ls.size = c.maxLocals)
    (d0 : decode cc pc = .ok (.new ik, 3)) (d3 : decode cc (pc + 3) = .ok (.dup, 1)) (d4 : decode cc (pc + 4) = .ok (.ldc is, 2)) (d6 : decode cc (pc + 6) = .ok (.invokespecial ic, 3)) (d9 : decode cc (pc + 9) = .ok (.athrow, 1))
    (hout : ∀ x ∈ c.exceptionTable.toList, covers x (pc + 9) = false)
    (hRframes : names.length + 3 < R.frames) (hRlocals : (rest.map fun v => v.category).sum + (13 * (names.length + 1) + 43) ≤ R.locals) (hRcells : cells + 1 ≤ R.cells) (hRslots : slots + 6 ≤ R.slots) (hlocks : meth.locks = false)
    (hx : ∀ t : State, s.vm.Alike t.vm → H.size ≤ t.heap.size → (∀ q : Nat, q < H.size → t.heap[q]? = H[q]?) → XC cls s t)
    (hf : ∀ z ∈ locs, free z.base) (hc : cells + 1 ≤ mc) (hs : slots + 6 ≤ ms) :
    W p l e R s m args below meth c H locs cells slots (vx_MQ below Qc XC args s mc ms free) (F0 m pc ls rest) := by
  intro T hT X
  have htr : e.platform.stackTraces = false := (show e.platform.stackTraces = l.stackTraces by rw [X.admits.platform]).trans hl
  have Y := vx_rebase X (R' := { frames := R.frames, locals := R.locals, cells := 1, slots := 6 }) (Nat.le_refl _) (Nat.le_refl _) hRcells hRslots
  obtain ⟨s', hA⟩ : ∃ z, z = (T.setVm s.vm).setFrames (.invoking m args :: below) := ⟨_, rfl⟩
  rw [← hA] at Y
  have hvm : s'.vm = s.vm := by rw [hA]; rfl
  have hhp : s'.heap = H := by rw [hA]; exact hT
  have hW0 : s.WarmedH s'.vm := by rw [hvm]; exact State.WarmedH.refl s
  have hat' : ∀ w ∈ vx_atS own ic cls names, w.before args s' = true := fun w hw => vx_ot_at hW0 hvm.symm (hgood w (List.mem_cons_of_mem _ (List.mem_cons_of_mem _ hw))) (hat w hw)
  have hk' : (Cond.classLink own ik cls).before args s' = true := vx_ot_at hW0 hvm.symm (hgood _ List.mem_cons_self) hk
  have hini' : (Cond.initialized cls).before args s' = true := vx_ot_at hW0 hvm.symm (hgood _ (List.mem_cons_of_mem _ List.mem_cons_self)) hini
  have hU' : vx_Zq Bundle.tN "UNASSIGNED_STACK" Bundle.steD A s' s'.heap := by rw [hhp]; exact vx_Zq.moved hW0.alike (hU.kept hS.2.1)
  have hN' : vx_Zq Bundle.tN "SUPPRESSED_SENTINEL" Bundle.listD A s' s'.heap := by rw [hhp]; exact vx_Zq.moved hW0.alike (hN.kept hS.2.1)
  have h : ∀ w ∈ Bundle.ownAtoms own ic cls names, w.before args s' = true := vx_own hat' (vx_isRefq hU'.1) (vx_isRefq hN'.1) hU'.2.word hN'.2.word
  have hown' : s'.vm.findClass own = some m.cls := by rw [hvm]; exact hown
  have hins : (Cond.instantiable cls 6).before args s' = true := h _ (by simp [Bundle.ownAtoms])
  obtain ⟨vm₁, cX, kX, hfX, hkX, -, -, X₁, st1⟩ := Y.newCold hexec (own := own) (C := cls) (index := ik) (n := 6) hown' hk' hins hini'
    (g := F0 m pc ls rest) rfl (by rw [hb]; exact d0) (Nat.le_refl _) (Nat.le_refl _)
  generalize hT1 : (T.setVm vm₁).pushCell { cls := cX, slots := kX.instanceTypes.map defaultValue, vm := .none } = T1 at X₁ st1
  have hcat : (Value.ref T.heap.size).category = 1 := rfl
  have hcellA : T1.heap[T.heap.size]? = some (freshCell cX kX) := by rw [← hT1]; exact State.heap_pushCell_size _ _
  have d3' : decode c.code (pc + 3) = .ok (.dup, 1) := by rw [hb]; exact d3
  have d4' : decode c.code (pc + 4) = .ok (.ldc is, 2) := by rw [hb]; exact d4
  have hstr' : vk_R own is text sa s' := vk_R.warm hW0 hstr
  obtain ⟨U, hsteps, hrun, hend, hW, hsame, ce, hce, hO⟩ := X₁.ctorThrowS hexec htr (own := own) (cls := cls) (names := names) (ic := ic) hown' hcls hnames h (fun x hx => nomatch hx) hfX hkX hcellA (by rw [hhp, hT]; exact Nat.le_refl _) (msg := .ref sa) rfl
    (g := { method := m, pc := pc + 6, locals := ls, stack := .ref sa :: .ref T.heap.size :: .ref T.heap.size :: rest, locked := none }) rfl hsize rfl rfl (rest := rest) rfl
    (by rw [hb]; exact d6) (by rw [hb]; exact d9) hout hRframes (by simp only [List.map_cons, List.sum_cons, hcat]; omega) hlocks
  obtain ⟨f1, f2⟩ := vx_frame hsame
  rw [hhp] at f1 f2
  have hWs : s.WarmedH U.vm := State.WarmedH.trans hW0 hW
  have hcl : s.vm.findClass cls = some ce.cls := by
    have h9 := hO.cls
    rw [hvm] at h9
    exact h9
  have hall : s.sameButNew ({ U with vm := s.vm } : State) locs mc ms := by
    subst hA
    obtain ⟨e1, e2⟩ := hsame
    rw [State.setFrames_setFrames] at e1
    have h2 : (T.setVm s.vm).sameButNew ({ U with vm := s.vm } : State) [] (0 + 1) (0 + 6) := ⟨e1, e2⟩
    have h3 := X.same.trans h2
    rw [List.append_nil] at h3
    exact h3.mono hc hs
  refine ⟨U, ?_, .threw T.heap.size, hrun, hend, Or.inr ⟨T.heap.size, rfl, cls, ce, locs, hx U hWs.alike f1 (fun q hq => f2 q hq (fun z hz => nomatch hz)), hce, hO.vm, hcl, hWs, hall, hf⟩⟩
  refine st1 _ ?_
  show Steps p.tables e below (T1.setTop { method := m, pc := pc + 3, locals := ls, stack := .ref T.heap.size :: rest, locked := none }) _
  jvm_step X₁.here [X₁.here.top, hexec, d3', Value.category]
  exact X₁.ldcString hexec (own := own) (text := text) (index := is) (a := sa) hown' hstr'.1 hstr'.2
    (g := { method := m, pc := pc + 4, locals := ls, stack := .ref T.heap.size :: .ref T.heap.size :: rest, locked := none }) rfl d4' _ hsteps
/-- 'throw new E("text")', the text by a wide index -/
theorem vx_throwSW {cc : ByteArray} {pc : Nat} (hexec : p.tables.exec = Jvm.exec) (hb : c.code = cc) (hl : l.stackTraces = false) {own cls text : String} {names : List String} {ik is ic mc ms sa : Nat} {A : Nat → Prop}
    (hown : s.vm.findClass own = some m.cls) (hcls : Bundle.fit cls = true) (hnames : ∀ n ∈ names, Bundle.fit n = true)
    (hk : (Cond.classLink own ik cls).before args s = true) (hini : (Cond.initialized cls).before args s = true) (hstr : vk_R own is text sa s) (hat : ∀ w ∈ vx_atS own ic cls names, w.before args s = true)
    (hgood : ∀ w ∈ Cond.classLink own ik cls :: Cond.initialized cls :: vx_atS own ic cls names, vx_ot w = true)
    (hU : vx_Zq Bundle.tN "UNASSIGNED_STACK" Bundle.steD A s s.heap) (hN : vx_Zq Bundle.tN "SUPPRESSED_SENTINEL" Bundle.listD A s s.heap) (hS : va_S A s.heap H locs) (hsize : ls.size = c.maxLocals)
    (d0 : decode cc pc = .ok (.new ik, 3)) (d3 : decode cc (pc + 3) = .ok (.dup, 1)) (d4 : decode cc (pc + 4) = .ok (.ldc_w is, 3)) (d7 : decode cc (pc + 7) = .ok (.invokespecial ic, 3)) (d10 : decode cc (pc + 10) = .ok (.athrow, 1))
    (hout : ∀ x ∈ c.exceptionTable.toList, covers x (pc + 10) = false)
    (hRframes : names.length + 3 < R.frames) (hRlocals : (rest.map fun v => v.category).sum + (13 * (names.length + 1) + 43) ≤ R.locals) (hRcells : cells + 1 ≤ R.cells) (hRslots : slots + 6 ≤ R.slots) (hlocks : meth.locks = false)
    (hx : ∀ t : State, s.vm.Alike t.vm → H.size ≤ t.heap.size → (∀ q : Nat, q < H.size → t.heap[q]? = H[q]?) → XC cls s t)
    (hf : ∀ z ∈ locs, free z.base) (hc : cells + 1 ≤ mc) (hs : slots + 6 ≤ ms) :
    W p l e R s m args below meth c H locs cells slots (vx_MQ below Qc XC args s mc ms free) (F0 m pc ls rest) := by
  intro T hT X
  have htr : e.platform.stackTraces = false := (show e.platform.stackTraces = l.stackTraces by rw [X.admits.platform]).trans hl
  have Y := vx_rebase X (R' := { frames := R.frames, locals := R.locals, cells := 1, slots := 6 }) (Nat.le_refl _) (Nat.le_refl _) hRcells hRslots
  obtain ⟨s', hA⟩ : ∃ z, z = (T.setVm s.vm).setFrames (.invoking m args :: below) := ⟨_, rfl⟩
  rw [← hA] at Y
  have hvm : s'.vm = s.vm := by rw [hA]; rfl
  have hhp : s'.heap = H := by rw [hA]; exact hT
  have hW0 : s.WarmedH s'.vm := by rw [hvm]; exact State.WarmedH.refl s
  have hat' : ∀ w ∈ vx_atS own ic cls names, w.before args s' = true := fun w hw => vx_ot_at hW0 hvm.symm (hgood w (List.mem_cons_of_mem _ (List.mem_cons_of_mem _ hw))) (hat w hw)
  have hk' : (Cond.classLink own ik cls).before args s' = true := vx_ot_at hW0 hvm.symm (hgood _ List.mem_cons_self) hk
  have hini' : (Cond.initialized cls).before args s' = true := vx_ot_at hW0 hvm.symm (hgood _ (List.mem_cons_of_mem _ List.mem_cons_self)) hini
  have hU' : vx_Zq Bundle.tN "UNASSIGNED_STACK" Bundle.steD A s' s'.heap := by rw [hhp]; exact vx_Zq.moved hW0.alike (hU.kept hS.2.1)
  have hN' : vx_Zq Bundle.tN "SUPPRESSED_SENTINEL" Bundle.listD A s' s'.heap := by rw [hhp]; exact vx_Zq.moved hW0.alike (hN.kept hS.2.1)
  have h : ∀ w ∈ Bundle.ownAtoms own ic cls names, w.before args s' = true := vx_own hat' (vx_isRefq hU'.1) (vx_isRefq hN'.1) hU'.2.word hN'.2.word
  have hown' : s'.vm.findClass own = some m.cls := by rw [hvm]; exact hown
  have hins : (Cond.instantiable cls 6).before args s' = true := h _ (by simp [Bundle.ownAtoms])
  obtain ⟨vm₁, cX, kX, hfX, hkX, -, -, X₁, st1⟩ := Y.newCold hexec (own := own) (C := cls) (index := ik) (n := 6) hown' hk' hins hini'
    (g := F0 m pc ls rest) rfl (by rw [hb]; exact d0) (Nat.le_refl _) (Nat.le_refl _)
  generalize hT1 : (T.setVm vm₁).pushCell { cls := cX, slots := kX.instanceTypes.map defaultValue, vm := .none } = T1 at X₁ st1
  have hcat : (Value.ref T.heap.size).category = 1 := rfl
  have hcellA : T1.heap[T.heap.size]? = some (freshCell cX kX) := by rw [← hT1]; exact State.heap_pushCell_size _ _
  have d3' : decode c.code (pc + 3) = .ok (.dup, 1) := by rw [hb]; exact d3
  have d4' : decode c.code (pc + 4) = .ok (.ldc_w is, 3) := by rw [hb]; exact d4
  have hstr' : vk_R own is text sa s' := vk_R.warm hW0 hstr
  obtain ⟨U, hsteps, hrun, hend, hW, hsame, ce, hce, hO⟩ := X₁.ctorThrowS hexec htr (own := own) (cls := cls) (names := names) (ic := ic) hown' hcls hnames h (fun x hx => nomatch hx) hfX hkX hcellA (by rw [hhp, hT]; exact Nat.le_refl _) (msg := .ref sa) rfl
    (g := { method := m, pc := pc + 7, locals := ls, stack := .ref sa :: .ref T.heap.size :: .ref T.heap.size :: rest, locked := none }) rfl hsize rfl rfl (rest := rest) rfl
    (by rw [hb]; exact d7) (by rw [hb]; exact d10) hout hRframes (by simp only [List.map_cons, List.sum_cons, hcat]; omega) hlocks
  obtain ⟨f1, f2⟩ := vx_frame hsame
  rw [hhp] at f1 f2
  have hWs : s.WarmedH U.vm := State.WarmedH.trans hW0 hW
  have hcl : s.vm.findClass cls = some ce.cls := by
    have h9 := hO.cls
    rw [hvm] at h9
    exact h9
  have hall : s.sameButNew ({ U with vm := s.vm } : State) locs mc ms := by
    subst hA
    obtain ⟨e1, e2⟩ := hsame
    rw [State.setFrames_setFrames] at e1
    have h2 : (T.setVm s.vm).sameButNew ({ U with vm := s.vm } : State) [] (0 + 1) (0 + 6) := ⟨e1, e2⟩
    have h3 := X.same.trans h2
    rw [List.append_nil] at h3
    exact h3.mono hc hs
  refine ⟨U, ?_, .threw T.heap.size, hrun, hend, Or.inr ⟨T.heap.size, rfl, cls, ce, locs, hx U hWs.alike f1 (fun q hq => f2 q hq (fun z hz => nomatch hz)), hce, hO.vm, hcl, hWs, hall, hf⟩⟩
  refine st1 _ ?_
  show Steps p.tables e below (T1.setTop { method := m, pc := pc + 3, locals := ls, stack := .ref T.heap.size :: rest, locked := none }) _
  jvm_step X₁.here [X₁.here.top, hexec, d3', Value.category]
  exact X₁.ldcStringW hexec (own := own) (text := text) (index := is) (a := sa) hown' hstr'.1 hstr'.2
    (g := { method := m, pc := pc + 4, locals := ls, stack := .ref T.heap.size :: .ref T.heap.size :: rest, locked := none }) rfl d4' _ hsteps
end Ends
section Bodies
variable {l : Launch}
theorem vx_ofW {y : MethodName} {ws ws' : List Cond} {rm : Room} {Pc : Array Value → State → Prop} {Qc : Array Value → State → Outcome → State → Prop} {XC : String → State → State → Prop} {mc ms : Nat} {free : Addr → Prop} {cc : ByteArray} {maxL : Nat} {ret : Option FieldType}
    (hy : plainName y.cls = true) (hw : ws = Cond.code y cc maxL ret :: ws')
    (body : ∀ p e s m args below meth c s₁, BodyLoose p l y (headSpec ws rm) cc maxL ret e s m args below meth c s₁ → c.maxLocals = maxL → (∀ x ∈ c.exceptionTable.toList, False) → Pc args s →
      W p l e (headSpec ws rm).room s m args below meth c s.heap [] 0 0 (vx_MQ below Qc XC args s mc ms free) (entryFrame m args maxL)) : vx_Met l y ws rm Pc Qc XC mc ms free := by
  refine MetFree.of_bodyS (code := cc) (maxLocals := maxL) (ret := ret) hy ?_ ?_
  · intro args s m h hn
    obtain ⟨meth, c, h1, h2, h3, h4, h5, h6, -, -⟩ := Cond.code_spec hn (atoms_spec (ws := ws) h _ (by rw [hw]; exact List.mem_cons_self))
    exact ⟨meth, c, h1, h2, h3, h4, h5, h6⟩
  · intro p e s m args below meth c s₁ B hml hP _
    have hh0 : s₁.heap = s.heap := by rw [B.state]; rfl
    have ht : ∀ x ∈ c.exceptionTable.toList, False := by
      obtain ⟨meth9, c9, h1, h2, -, -, -, -, h7, -⟩ := Cond.code_spec B.named (atoms_spec (ws := ws) B.pre _ (by rw [hw]; exact List.mem_cons_self))
      cases Option.some.inj (h1.symm.trans B.method)
      cases Option.some.inj (h2.symm.trans (Stand.of_body B).code)
      intro x hx
      rw [Array.isEmpty_iff.mp h7] at hx
      cases hx
    obtain ⟨t, a1, o, b1, b2, b3⟩ := body p e s m args below meth c s₁ B hml ht hP s₁ hh0 (Stand.of_body B)
    exact ⟨t, o, a1, b1, b2, b3⟩
/-- the table of a body with handlers -/
theorem vx_table {p : Program} {x y : MethodName} {S : Spec} {cc bytes : ByteArray} {maxL maxL' : Nat} {ret ret' : Option FieldType} {e : Env} {s s₁ : State} {m : MethodId} {args : Array Value} {below : List Frame} {meth : Method} {c : Code} {hh : List (Nat × Nat × Nat × Nat)}
    (B : BodyLoose p l y S cc maxL ret e s m args below meth c s₁) (h : (Cond.codeWith y bytes maxL' ret' hh).before args s = true) : c.exceptionTable.toList = tableOf hh := by
  obtain ⟨m9, meth9, c9, hn9, h1, h2, -, -, h6, -⟩ := Cond.codeWith_spec h
  cases Option.some.inj (hn9.symm.trans B.named)
  cases Option.some.inj (h1.symm.trans B.method)
  cases Option.some.inj (h2.symm.trans (Stand.of_body B).code)
  rw [← h6, table_eq]
end Bodies
end VXA
/-! ===== END ===== -/
/-! ===== BEGIN a static call of a method with an exception table ===== -/
section VXS
variable {p : Program} {l : Launch} {e : Env} {R : Room} {s : State} {m : MethodId} {args : Array Value} {below : List Frame} {meth : Method} {c : Code} {T : State} {H : Heap} {locs : List Loc} {cells slots : Nat}
abbrev vx_CSW (R : Room) (s : State) (args : Array Value) (own : String) (index : Nat) (y : MethodName) (bytes : ByteArray) (maxL : Nat) (ret : Option FieldType) (hh : List (Nat × Nat × Nat × Nat)) (ws : List Cond) (rm : Room) (mc ms n : Nat) : Prop :=
  (rm.cells = mc ∧ rm.slots = ms ∧ rm.frames + 1 ≤ R.frames ∧ 8 + (maxL + 11) + rm.locals ≤ R.locals ∧ (∀ w ∈ ws, ∀ (a' : Array Value) (U : State), s.WarmedH U.vm → w.before a' U = true) ∧ Cond.codeWith y bytes maxL ret hh ∈ ws) ∧
  (Cond.codeWith y bytes maxL ret hh).before args s = true ∧ (Cond.initialized y.cls).before args s = true ∧ (y.cls ≠ "java/lang/invoke/MethodHandle" ∧ y.cls ≠ "java/lang/invoke/VarHandle") ∧
  (∀ sig, parseMethodDescriptor y.desc = some sig → n = sig.parameters.length) ∧ (Cond.methodLink own index y).before args s = true ∧ (Cond.static y).before args s = true
theorem vx_cwSW {own : String} {index maxL mc ms : Nat} {y : MethodName} {bytes : ByteArray} {ret : Option FieldType} {hh : List (Nat × Nat × Nat × Nat)} {Ts ws ws' : List Cond} {rm : Room} (n : Nat) (ht : ∀ w ∈ Ts, w.before args s = true) (hT : GoodIn Ts (va_wsS own index y ws)) (hw : ws = Cond.codeWith y bytes maxL ret hh :: ws') (hrc : rm.cells = mc) (hrs : rm.slots = ms)
    (hd : y.cls ≠ "java/lang/invoke/MethodHandle" ∧ y.cls ≠ "java/lang/invoke/VarHandle" ∧ (parseMethodDescriptor y.desc).map (fun d => d.parameters.length) = some n) (hR : rm.frames + 1 ≤ R.frames ∧ 8 + (maxL + 11) + rm.locals ≤ R.locals) :
    vx_CSW R s args own index y bytes maxL ret hh ws rm mc ms n := by
  have ok : ∀ w ∈ va_wsS own index y ws, w.before args s = true := fun w h => ht w (hT w h).1
  have hG : GoodIn Ts ws := fun w h => hT w (by unfold va_wsS; exact List.mem_append_right _ h)
  have hc : Cond.codeWith y bytes maxL ret hh ∈ ws := by rw [hw]; exact List.mem_cons_self
  refine ⟨⟨hrc, hrs, hR.1, hR.2, pay_in ht hG, hc⟩, ht _ (hG _ hc).1, ok _ (by simp [va_wsS]), ⟨hd.1, hd.2.1⟩, fun sig h => ?_, ok _ (by simp [va_wsS]), ok _ (by simp [va_wsS])⟩
  have h2 := hd.2.2
  rw [h] at h2
  exact (Option.some.inj h2).symm
theorem vx_callSW (X : Stand p l e R s m args below meth c T locs cells slots) (hexec : p.tables.exec = Jvm.exec) {own : String} {index : Nat} {y : MethodName} {bytes : ByteArray} {maxL : Nat} {ret : Option FieldType} {hh : List (Nat × Nat × Nat × Nat)}
    (hown : s.vm.findClass own = some m.cls) (hlink : (Cond.methodLink own index y).before args s = true) (hstat : (Cond.static y).before args s = true) (hinit : (Cond.initialized y.cls).before args s = true)
    (hcode : (Cond.codeWith y bytes maxL ret hh).before args s = true) (hy : y.cls ≠ "java/lang/invoke/MethodHandle" ∧ y.cls ≠ "java/lang/invoke/VarHandle")
    {W9 : Nat} {Pre : Pt → Array Value → Prop} {Post : Pt → Array Value → Option Value → Pt → Prop} (hK : Back l R p e below s args y 3 W9 Pre Post)
    {g : JFrame} (hg : g.method = m) (hsize : g.locals.size = c.maxLocals) {argsL rest : List Value} (hlen : ∀ sig, parseMethodDescriptor y.desc = some sig → argsL.length = sig.parameters.length)
    (hstack : g.stack = argsL.reverse ++ rest) (hW : 2 * g.monitorRoom + (rest.map fun v => v.category).sum ≤ W9) (hdg : decode c.code g.pc = .ok (.invokestatic index, 3))
    (hpre : ∀ vm₁, s.WarmedH vm₁ → Pre ⟨T.setVm vm₁, locs, cells, slots⟩ argsL.toArray) :
    ∃ (v : Option Value) (vm₁ : Vm) (B : Pt), s.WarmedH vm₁ ∧ Stand p l e R s m args below meth c B.U B.locs B.cells B.slots ∧ Post ⟨T.setVm vm₁, locs, cells, slots⟩ argsL.toArray v B ∧
      ∀ target, Steps p.tables e below (B.U.setTop { g with pc := g.pc + 3, stack := v.toList ++ rest }) target → Steps p.tables e below (T.setTop g) target := by
  obtain ⟨mk, methM, cM, hnamed, hmethM, -, -, -, -, -, -, hsigM⟩ := Cond.codeWith_spec hcode
  have hstatic : methM.isStatic = true := Cond.static_spec hnamed hmethM hstat
  obtain ⟨kP, hkP, -⟩ := className_of_methodNamed hnamed
  have hinitP : kP.init = .initialized := Cond.initialized_spec (findClass_of_methodNamed hnamed) hkP hinit
  obtain ⟨vm₁, X₁, hstep₁⟩ := X.invokestatic hexec hown hlink hnamed hmethM hstatic hkP hinitP hy (g := g) hg (argsL := argsL) (rest := rest) (hlen _ hsigM) hstack hdg
  obtain ⟨v, B, X', hpost, hsteps⟩ := hK m meth c ⟨T.setVm vm₁, locs, cells, slots⟩ { g with stack := rest } (.invokestatic index) mk argsL.toArray X₁ hg hsize hdg hW (X₁.named hnamed) (hpre vm₁ X₁.warmed)
  exact ⟨v, vm₁, B, X₁.warmed, X', hpost, fun target h => hstep₁ _ fun acts => by rw [doInvoke_state]; exact hsteps.trans h⟩
theorem vx_runSW {y : MethodName} {bytes cc : ByteArray} {maxL nL mc ms n index : Nat} {ret : Option FieldType} {hh : List (Nat × Nat × Nat × Nat)} {ws : List Cond} {rm : Room} {Pc : Array Value → State → Prop} {Qc : Array Value → State → Outcome → State → Prop} {free : Addr → Prop} {Ts : List Cond} {own : String} {As rest : List Value} {g : JFrame}
    (S : CallFix p m c cc nL s args Ts own) (hM : Met l y ws rm Pc Qc mc ms free) (cw : vx_CSW R s args own index y bytes maxL ret hh ws rm mc ms n) (hp : PreS s H Pc As)
    (hg : g.method = m) (hn : As.length = n) (hsize : g.locals.size = nL) (hstack : g.stack = As.reverse ++ rest) (hW : 2 * g.monitorRoom + (rest.map fun v => v.category).sum ≤ 8) (hdg : decode cc g.pc = .ok (.invokestatic index, 3)) (hf : cells + mc ≤ R.cells ∧ slots + ms ≤ R.slots) :
    va_Run p l e R s m args below meth c H locs cells slots mc ms g rest (Qc As.toArray) (free) := by
  obtain ⟨⟨hrc, hrs, hfr, hlo, hws, hcw⟩, hcode, hini, hy, hlen, hl, hstt⟩ := cw
  have hK : Back l R p e below s args y 3 8 (PreOf R mc ms Pc) (PostOf Qc mc ms free) := va_backW (hh := hh) (bytes := bytes) (maxL := maxL) (ret := ret) hM hp.1 hrc hrs hfr hlo hws hcw (fun a' U hW => word_at hW (Or.inl (by first | rfl | simp [Cond.onTables, Cond.keeps, Cond.steady])) hini)
  obtain ⟨hx, hb, hml, ho, -⟩ := S
  intro T hT X
  obtain ⟨v, vm₁, ⟨U', l2, c2, s2⟩, hW₁, X', ⟨g', mk, t, L, e1, e2, hq, h1, hL, h2, h3⟩, st⟩ := vx_callSW X hx (hh := hh) (bytes := bytes) (maxL := maxL) (ret := ret) ho hl hstt hini hcode hy hK hg (hsize.trans hml.symm) (argsL := As) (rest := rest) (fun sig h => hn.trans (hlen sig h)) hstack hW (by rw [hb]; exact hdg)
    (fun vm₁ hW₁ => ⟨hf.1, hf.2, hp.2 (T.setVm vm₁) hT hW₁⟩)
  dsimp only [Pt.U, Pt.locs, Pt.cells, Pt.slots] at X' e1 e2 h1 h2 h3 st
  subst h1; subst h2; subst h3
  exact ⟨v, (T.setVm vm₁).calling g' mk As.toArray, t, U', L, hT, X', hL, e1, e2, hq, st⟩
/-- not caught here, past rows that name other classes: it goes on to the caller -/
theorem vx_outP {p : Program} {l : Launch} {e : Env} {R : Room} {s : State} {m : MethodId} {args : Array Value} {below : List Frame} {meth : Method} {c : Code} {H : Heap} {locs : List Loc} {cells slots : Nat} {free : Addr → Prop} {ls : Array Slot} {rest : List Value} {Qc : Array Value → State → Outcome → State → Prop} {XC : String → State → State → Prop}
    {pc : Nat} {own E : String} {ce : Cell} {q : Addr} {mc ms : Nat} (hown : s.vm.findClass own = some m.cls) (hlocks : meth.locks = false)
    (hpass : ∀ z ∈ c.exceptionTable.toList, covers z pc = false ∨ (z.catchType ≠ 0 ∧ ∃ nm : String, (Cond.classLink own z.catchType nm).before args s = true ∧ va_Nc E nm s)) (hcell : H[q]? = some ce) (hv : ce.vm = .none) (hcl : s.vm.findClass E = some ce.cls)
    (hx : ∀ t : State, t.heap = H → s.vm.Alike t.vm → XC E s t) (hf : ∀ z ∈ locs, free z.base) (hc : cells ≤ mc) (hs : slots ≤ ms) :
    vx_W p l e R s m args below meth c H locs cells slots (vx_MQ below Qc XC args s mc ms free) (F0 m pc ls rest) q := by
  intro T hT X
  have hpl : e.platform.magicAccessors = ({} : Platform).magicAccessors := by rw [X.admits.platform]
  obtain ⟨vm', hW', X', st⟩ := X.outThrough hlocks q (g := F0 m pc ls rest) rfl rfl rfl (cell := ce) (by rw [hT]; exact hcell) (by rw [hv]; rfl)
    (by obtain ⟨k9, h9, -⟩ := Vm.findClass_spec hcl; exact ⟨k9, h9⟩) (fun z hz => by
      rcases hpass z hz with h | ⟨hz0, nm, hl1, hn1⟩
      · exact Or.inl h
      · obtain ⟨c6, hc6, hcl6⟩ := Cond.classLink_spec hown hl1 e.platform hpl
        obtain ⟨a8, b8, h1, h2, h3⟩ := hn1
        cases Option.some.inj (h1.symm.trans hcl)
        cases Option.some.inj (h2.symm.trans hc6)
        exact Or.inr ⟨hz0, _, hcl6, h3⟩)
  obtain ⟨g₀, hfr⟩ := X'.frames_eq
  have hcell9 : ((T.setVm vm').setFrames (.throwing q :: below)).heap[q]? = some ce := by
    show T.heap[q]? = some ce
    rw [hT]; exact hcell
  have hend : Ended ((T.setVm vm').setFrames (.throwing q :: below)) below (.threw q) := State.frames_setFrames _ (State.cur_lt_of_frames hfr)
  refine ⟨(T.setVm vm').setFrames (.throwing q :: below), ?_, .threw q, X'.here.running, hend, Or.inr ⟨q, rfl, E, ce, locs, hx _ hT (X'.ends _).1.alike, hcell9, hv, hcl, (X'.ends _).1, (X'.ends _).2.mono hc hs, hf⟩⟩
  rw [X.pushThrowing_eq]
  exact st
/-- a thing of a world lies in the heap -/
theorem vx_lt {D : va_G} {cl : List vw_C} {ws : va_W} {H1 : Heap} (h : va_P D cl ws H1) {k : Nat} {q : Nat × va_E} (hk : ws[k]? = some q) : q.1 < H1.size := (h k q hk).lt
end VXS
/-! ===== END ===== -/
/-! ===== BEGIN methods with a table of their own: called by a name, returning or throwing ===== -/
section VXH
/-! vx_backW, vx_callVX, vx_callSX, vx_callVW, vx_runVW, vx_runVX, vx_runSX, vx_ofWH follow the same proofs as their sisters above (Free/Laws.lean, Shelf42/LK1.lean); vx_outP calls Shelf42/NT130.lean (outThrough). -/
section
variable {l : Launch} {R : Room} {p : Program} {e : Env} {below : List Frame} {s : State} {sargs : Array Value} {y : MethodName} {len W9 : Nat}
theorem vx_backW {ws : List Cond} {rm : Room} {Pc : Array Value → State → Prop} {Qc : Array Value → State → Outcome → State → Prop} {XC : String → State → State → Prop} {mc ms : Nat} {free : Addr → Prop} {bytes : ByteArray} {maxL : Nat} {ret : Option FieldType} {hh : List (Nat × Nat × Nat × Nat)}
    (hM : vx_Met l y ws rm Pc Qc XC mc ms free) (hblind : FrameBlind Pc) (hrc : rm.cells = mc) (hrs : rm.slots = ms)
    (hframes : rm.frames + 1 ≤ R.frames) (hlocals : W9 + (maxL + 11) + rm.locals ≤ R.locals)
    (hws : ∀ w ∈ ws, ∀ a' U, s.WarmedH U.vm → w.before a' U = true) (hcode : Cond.codeWith y bytes maxL ret hh ∈ ws) (hinit : ∀ a' U, s.WarmedH U.vm → (Cond.initialized y.cls).before a' U = true) :
    vx_Back l R p e below s sargs y len W9 (PreOf R mc ms Pc) (PostOf Qc mc ms free) (vx_Post XC mc ms free) := by
  intro m meth c A g ig mk a X hg hsize hdg hW hn hp
  have h1 : (headSpec ws rm).pre.before a A.U = true := atoms_intro fun w hw => hws w hw _ _ X.warmed
  have h2 : (Cond.codeWith y bytes maxL ret hh).before a A.U = true := hws _ hcode _ _ X.warmed
  have h3 : (Cond.initialized y.cls).before a A.U = true := hinit _ _ X.warmed
  have h4 : A.cells + (headSpec ws rm).room.cells ≤ R.cells := by rw [show (headSpec ws rm).room.cells = mc from hrc]; exact hp.1
  have h5 : A.slots + (headSpec ws rm).room.slots ≤ R.slots := by rw [show (headSpec ws rm).room.slots = ms from hrs]; exact hp.2.1
  have hPc : Pc a (A.U.calling g mk a) := hblind _ _ _ _ hp.2.2
  obtain ⟨U, Ls, c0, s0⟩ := A
  dsimp only [Pt.U, Pt.locs, Pt.cells, Pt.slots] at h1 h2 h3 h4 h5 X hn hPc ⊢
  obtain ⟨m9, methY, cY, hn9, hmY, hcY, -, hlY, -⟩ := Cond.codeWith_spec h2
  cases Option.some.inj (hn9.symm.trans hn)
  obtain ⟨kY, hkY, -⟩ := className_of_methodNamed hn
  have hinitY : kY.init = .initialized := Cond.initialized_spec (findClass_of_methodNamed hn) hkY h3
  have h : At U g.method c below := by rw [hg]; exact X.here
  have hlocals9 : W9 + (maxL + 11) + (headSpec ws rm).room.locals ≤ R.locals := hlocals
  have happ : (headSpec ws rm).appliesLoose y e.platform (U.calling g mk a) = true :=
    Spec.appliesLoose_calling (g := g) h hdg hn hkY hinitY
      (X.room_calling (g := g) (R' := (headSpec ws rm).room) hsize hmY hcY hframes (by rw [hlY]; omega) h4 h5) h1
  obtain ⟨mid, hmid⟩ := h.above
  have hfr : (U.setTop g).frames = (.java g :: mid) ++ below := by rw [State.frames_setTop' g h.top, hmid]; rfl
  obtain ⟨o, s₂, hsteps, -, hend, hq⟩ := Steps.callFree hM p X.admits X.cas X.clock (acts := []) hfr happ hPc trivial
  have hq' : vx_Q Qc XC mc ms free a (U.calling g mk a) o s₂ := hq
  rw [State.frames_setTop' g h.top] at hend
  obtain ⟨g₀, hg0⟩ := Option.isSome_iff_exists.mp h.top
  obtain ⟨r, hr⟩ := State.topJava?_eq_some.mp hg0
  have hr' : (({ U with heap := s₂.heap, slotsUsed := s₂.slotsUsed } : State).setVm s₂.vm).frames = .java g₀ :: r := hr
  rcases hq' with ⟨hqc, L, hfe, hL⟩ | ⟨q, rfl, E, ce, L, hx, hce, hcv, hcl, hW₂, hsm, hL⟩
  · obtain ⟨⟨v, rfl⟩, hW₂, e2, q2, q3, q4, q5, q6⟩ := id hfe
    have e3 : s₂ = ({ (U.calling g mk a).setFrames s₂.frames with heap := s₂.heap, slotsUsed := s₂.slotsUsed } : State).setVm s₂.vm := by
      have : s₂ = ({ s₂ with vm := (U.calling g mk a).vm } : State).setVm s₂.vm := rfl
      rw [e2] at this
      exact this
    obtain ⟨c₂, i₂, len₂, hc₂, hd₂, hf₂⟩ := hend
    have hW' : U.WarmedH s₂.vm := hW₂
    have hcc : c₂ = c := by
      have h1 : s₂.code? g.method = U.code? g.method := by
        rw [State.code?_eq, State.code?_eq, hW'.alike.method?]
      exact Option.some.inj (hc₂.symm.trans (h1.trans h.code))
    subst hcc
    have hlen : len₂ = len := by rw [hdg] at hd₂; cases hd₂; rfl
    subst hlen
    have hs₂ : s₂ = (({ U with heap := s₂.heap, slotsUsed := s₂.slotsUsed } : State).setVm s₂.vm).setTop { g with pc := g.pc + len₂, stack := v.toList ++ g.stack } := by
      refine e3.trans ?_
      rw [hf₂, State.calling_eq h.top, State.setFrames_setFrames, State.setTop_of_frames _ hr', hr]
      rfl
    have hsame : U.sameButNew ({ U with heap := s₂.heap, slotsUsed := s₂.slotsUsed } : State) L mc ms := by
      refine ⟨?_, q2, q3, q4, q5, q6⟩
      obtain ⟨t, ht, -⟩ := State.frames_cons hr
      show ({ U with heap := s₂.heap, slotsUsed := s₂.slotsUsed } : State) = { U.setFrames U.frames with heap := s₂.heap, slotsUsed := s₂.slotsUsed }
      rw [State.setFrames_self ht]
    subst hg
    refine Or.inl ⟨v, ⟨(({ U with heap := s₂.heap, slotsUsed := s₂.slotsUsed } : State).setVm s₂.vm), Ls ++ L, c0 + mc, s0 + ms⟩,
      ⟨X.admits, X.cas, X.clock, X.frames, X.room, X.hears, X.method, X.code, (X.here.setHeapUsed s₂.heap s₂.slotsUsed).setVm hW'.alike, X.tail, State.WarmedH.trans X.warmed hW', X.limits, X.bytes, X.same.trans (hsame.setVm s.vm)⟩,
      ⟨g, mk, s₂, L, rfl, rfl, hqc, rfl, hL, rfl, rfl⟩, ?_⟩
    show Steps p.tables e below _ ((({ U with heap := s₂.heap, slotsUsed := s₂.slotsUsed } : State).setVm s₂.vm).setTop { g with pc := g.pc + len₂, stack := v.toList ++ g.stack })
    rw [← hs₂]
    exact hsteps
  · obtain ⟨e2, q2, q3, q4, q5, q6⟩ := id hsm
    have e3 : s₂ = ({ (U.calling g mk a).setFrames s₂.frames with heap := s₂.heap, slotsUsed := s₂.slotsUsed } : State).setVm s₂.vm := by
      have : s₂ = ({ s₂ with vm := (U.calling g mk a).vm } : State).setVm s₂.vm := rfl
      rw [e2] at this
      exact this
    have hf₂ : s₂.frames = .throwing q :: .java g :: U.frames.tail := hend
    have hW' : U.WarmedH s₂.vm := hW₂
    have hs₂ : s₂ = ((({ U with heap := s₂.heap, slotsUsed := s₂.slotsUsed } : State).setVm s₂.vm).setTop g).pushFrame (.throwing q) := by
      refine e3.trans ?_
      rw [hf₂, State.calling_eq h.top, State.setFrames_setFrames, State.pushFrame, State.frames_setTop _ hr', State.setTop_of_frames _ hr', State.setFrames_setFrames, hr]
      rfl
    have hsame : U.sameButNew ({ U with heap := s₂.heap, slotsUsed := s₂.slotsUsed } : State) L mc ms := by
      refine ⟨?_, q2, q3, q4, q5, q6⟩
      obtain ⟨t, ht, -⟩ := State.frames_cons hr
      show ({ U with heap := s₂.heap, slotsUsed := s₂.slotsUsed } : State) = { U.setFrames U.frames with heap := s₂.heap, slotsUsed := s₂.slotsUsed }
      rw [State.setFrames_self ht]
    subst hg
    refine Or.inr ⟨q, ⟨(({ U with heap := s₂.heap, slotsUsed := s₂.slotsUsed } : State).setVm s₂.vm), Ls ++ L, c0 + mc, s0 + ms⟩,
      ⟨X.admits, X.cas, X.clock, X.frames, X.room, X.hears, X.method, X.code, (X.here.setHeapUsed s₂.heap s₂.slotsUsed).setVm hW'.alike, X.tail, State.WarmedH.trans X.warmed hW', X.limits, X.bytes, X.same.trans (hsame.setVm s.vm)⟩,
      ⟨g, mk, s₂, L, E, ce, rfl, rfl, hx, hce, hcv, hcl, rfl, hL, rfl, rfl⟩, ?_⟩
    show Steps p.tables e below _ (((({ U with heap := s₂.heap, slotsUsed := s₂.slotsUsed } : State).setVm s₂.vm).setTop g).pushFrame (.throwing q))
    rw [← hs₂]
    exact hsteps
end
variable {p : Program} {l : Launch} {e : Env} {R : Room} {s : State} {m : MethodId} {args : Array Value} {below : List Frame} {meth : Method} {c : Code} {T : State} {H : Heap} {locs : List Loc} {cells slots : Nat}
theorem vx_callVX (X : Stand p l e R s m args below meth c T locs cells slots) (hexec : p.tables.exec = Jvm.exec) {own C : String} {index : Nat} {y : MethodName} {bytes : ByteArray} {maxL : Nat} {ret : Option FieldType} {hh : List (Nat × Nat × Nat × Nat)}
    (hown : s.vm.findClass own = some m.cls) (hlink : (Cond.methodLink own index y).before args s = true) (hinst : (Cond.instanceMethod y).before args s = true) (hsel : (Cond.selects C y y).before args s = true)
    (hcode : (Cond.codeWith y bytes maxL ret hh).before args s = true) (hy : y.cls ≠ "java/lang/invoke/MethodHandle" ∧ y.cls ≠ "java/lang/invoke/VarHandle")
    {W9 : Nat} {Pre : Pt → Array Value → Prop} {Post : Pt → Array Value → Option Value → Pt → Prop} {PostX : Pt → Array Value → Addr → Pt → Prop} (hK : vx_Back l R p e below s args y 3 W9 Pre Post PostX)
    {b : Addr} {cellB : Cell} (hcell : T.heap[b]? = some cellB) (hobj : cellB.vm.isStatics = false) (hcls : s.vm.findClass C = some cellB.cls)
    {g : JFrame} (hg : g.method = m) (hsize : g.locals.size = c.maxLocals) {argsL rest : List Value} (hlen : ∀ sig, parseMethodDescriptor y.desc = some sig → argsL.length = sig.parameters.length)
    (hstack : g.stack = argsL.reverse ++ .ref b :: rest) (hW : 2 * g.monitorRoom + (rest.map fun v => v.category).sum ≤ W9) (hdg : decode c.code g.pc = .ok (.invokevirtual index, 3))
    (hpre : ∀ vm₁, s.WarmedH vm₁ → Pre ⟨T.setVm vm₁, locs, cells, slots⟩ (Value.ref b :: argsL).toArray) :
    (∃ (v : Option Value) (vm₁ : Vm) (B : Pt), s.WarmedH vm₁ ∧ Stand p l e R s m args below meth c B.U B.locs B.cells B.slots ∧ Post ⟨T.setVm vm₁, locs, cells, slots⟩ (Value.ref b :: argsL).toArray v B ∧
      ∀ target, Steps p.tables e below (B.U.setTop { g with pc := g.pc + 3, stack := v.toList ++ rest }) target → Steps p.tables e below (T.setTop g) target) ∨
    (∃ (q : Addr) (vm₁ : Vm) (B : Pt), s.WarmedH vm₁ ∧ Stand p l e R s m args below meth c B.U B.locs B.cells B.slots ∧ PostX ⟨T.setVm vm₁, locs, cells, slots⟩ (Value.ref b :: argsL).toArray q B ∧
      Steps p.tables e below (T.setTop g) ((B.U.setTop { g with stack := rest }).pushFrame (.throwing q))) := by
  obtain ⟨mk, methM, hnamed, hmethM, hstM, habM⟩ := Cond.instanceMethod_spec hinst
  obtain ⟨m8, methM', cM, hn8, hmethM', -, -, -, -, -, -, hsigM⟩ := Cond.codeWith_spec hcode
  cases Option.some.inj (hn8.symm.trans hnamed)
  cases hmethM.symm.trans hmethM'
  obtain ⟨c2, r2, m2, q1, q2, q3, q4, kP, hkP, hkPi⟩ := Cond.selects_spec hsel
  cases hcls.symm.trans q1
  cases (State.methodFound?_of_named hnamed hy).symm.trans q2
  cases hnamed.symm.trans q3
  have hselP : selectMethod e.platform s.vm cellB.cls mk = .method mk := by rw [Launch.admits_selectMethod X.admits]; exact q4
  obtain ⟨vm₁, X₁, hstep₁⟩ := X.invokevirtual hexec hown hlink hnamed hmethM hstM hkP hkPi hy (a := b) (cell := cellB) hcell
    (fun z h => by rw [h] at hobj; cases hobj) hselP hmethM habM hkP hkPi (g := g) hg (argsL := argsL) (rest := rest) (hlen _ hsigM) hstack hdg
  rcases hK m meth c ⟨T.setVm vm₁, locs, cells, slots⟩ { g with stack := rest } (.invokevirtual index) mk (Value.ref b :: argsL).toArray X₁ hg hsize hdg hW (X₁.named hnamed) (hpre vm₁ X₁.warmed) with ⟨v, B, X', hpost, hsteps⟩ | ⟨q, B, X', hpost, hsteps⟩
  · exact Or.inl ⟨v, vm₁, B, X₁.warmed, X', hpost, fun target h => hstep₁ _ fun acts => by rw [doInvoke_state]; exact hsteps.trans h⟩
  · exact Or.inr ⟨q, vm₁, B, X₁.warmed, X', hpost, hstep₁ _ fun acts => by rw [doInvoke_state]; exact hsteps⟩
theorem vx_callSX (X : Stand p l e R s m args below meth c T locs cells slots) (hexec : p.tables.exec = Jvm.exec) {own : String} {index : Nat} {y : MethodName} {bytes : ByteArray} {maxL : Nat} {ret : Option FieldType} {hh : List (Nat × Nat × Nat × Nat)}
    (hown : s.vm.findClass own = some m.cls) (hlink : (Cond.methodLink own index y).before args s = true) (hstat : (Cond.static y).before args s = true) (hinit : (Cond.initialized y.cls).before args s = true)
    (hcode : (Cond.codeWith y bytes maxL ret hh).before args s = true) (hy : y.cls ≠ "java/lang/invoke/MethodHandle" ∧ y.cls ≠ "java/lang/invoke/VarHandle")
    {W9 : Nat} {Pre : Pt → Array Value → Prop} {Post : Pt → Array Value → Option Value → Pt → Prop} {PostX : Pt → Array Value → Addr → Pt → Prop} (hK : vx_Back l R p e below s args y 3 W9 Pre Post PostX)
    {g : JFrame} (hg : g.method = m) (hsize : g.locals.size = c.maxLocals) {argsL rest : List Value} (hlen : ∀ sig, parseMethodDescriptor y.desc = some sig → argsL.length = sig.parameters.length)
    (hstack : g.stack = argsL.reverse ++ rest) (hW : 2 * g.monitorRoom + (rest.map fun v => v.category).sum ≤ W9) (hdg : decode c.code g.pc = .ok (.invokestatic index, 3))
    (hpre : ∀ vm₁, s.WarmedH vm₁ → Pre ⟨T.setVm vm₁, locs, cells, slots⟩ argsL.toArray) :
    (∃ (v : Option Value) (vm₁ : Vm) (B : Pt), s.WarmedH vm₁ ∧ Stand p l e R s m args below meth c B.U B.locs B.cells B.slots ∧ Post ⟨T.setVm vm₁, locs, cells, slots⟩ argsL.toArray v B ∧
      ∀ target, Steps p.tables e below (B.U.setTop { g with pc := g.pc + 3, stack := v.toList ++ rest }) target → Steps p.tables e below (T.setTop g) target) ∨
    (∃ (q : Addr) (vm₁ : Vm) (B : Pt), s.WarmedH vm₁ ∧ Stand p l e R s m args below meth c B.U B.locs B.cells B.slots ∧ PostX ⟨T.setVm vm₁, locs, cells, slots⟩ argsL.toArray q B ∧
      Steps p.tables e below (T.setTop g) ((B.U.setTop { g with stack := rest }).pushFrame (.throwing q))) := by
  obtain ⟨mk, methM, cM, hnamed, hmethM, -, -, -, -, -, -, hsigM⟩ := Cond.codeWith_spec hcode
  have hstatic : methM.isStatic = true := Cond.static_spec hnamed hmethM hstat
  obtain ⟨kP, hkP, -⟩ := className_of_methodNamed hnamed
  have hinitP : kP.init = .initialized := Cond.initialized_spec (findClass_of_methodNamed hnamed) hkP hinit
  obtain ⟨vm₁, X₁, hstep₁⟩ := X.invokestatic hexec hown hlink hnamed hmethM hstatic hkP hinitP hy (g := g) hg (argsL := argsL) (rest := rest) (hlen _ hsigM) hstack hdg
  rcases hK m meth c ⟨T.setVm vm₁, locs, cells, slots⟩ { g with stack := rest } (.invokestatic index) mk argsL.toArray X₁ hg hsize hdg hW (X₁.named hnamed) (hpre vm₁ X₁.warmed) with ⟨v, B, X', hpost, hsteps⟩ | ⟨q, B, X', hpost, hsteps⟩
  · exact Or.inl ⟨v, vm₁, B, X₁.warmed, X', hpost, fun target h => hstep₁ _ fun acts => by rw [doInvoke_state]; exact hsteps.trans h⟩
  · exact Or.inr ⟨q, vm₁, B, X₁.warmed, X', hpost, hstep₁ _ fun acts => by rw [doInvoke_state]; exact hsteps⟩
theorem vx_callVW (X : Stand p l e R s m args below meth c T locs cells slots) (hexec : p.tables.exec = Jvm.exec) {own C : String} {index : Nat} {y : MethodName} {bytes : ByteArray} {maxL : Nat} {ret : Option FieldType} {hh : List (Nat × Nat × Nat × Nat)}
    (hown : s.vm.findClass own = some m.cls) (hlink : (Cond.methodLink own index y).before args s = true) (hinst : (Cond.instanceMethod y).before args s = true) (hsel : (Cond.selects C y y).before args s = true)
    (hcode : (Cond.codeWith y bytes maxL ret hh).before args s = true) (hy : y.cls ≠ "java/lang/invoke/MethodHandle" ∧ y.cls ≠ "java/lang/invoke/VarHandle")
    {W9 : Nat} {Pre : Pt → Array Value → Prop} {Post : Pt → Array Value → Option Value → Pt → Prop} (hK : Back l R p e below s args y 3 W9 Pre Post)
    {b : Addr} {cellB : Cell} (hcell : T.heap[b]? = some cellB) (hobj : cellB.vm.isStatics = false) (hcls : s.vm.findClass C = some cellB.cls)
    {g : JFrame} (hg : g.method = m) (hsize : g.locals.size = c.maxLocals) {argsL rest : List Value} (hlen : ∀ sig, parseMethodDescriptor y.desc = some sig → argsL.length = sig.parameters.length)
    (hstack : g.stack = argsL.reverse ++ .ref b :: rest) (hW : 2 * g.monitorRoom + (rest.map fun v => v.category).sum ≤ W9) (hdg : decode c.code g.pc = .ok (.invokevirtual index, 3))
    (hpre : ∀ vm₁, s.WarmedH vm₁ → Pre ⟨T.setVm vm₁, locs, cells, slots⟩ (Value.ref b :: argsL).toArray) :
    ∃ (v : Option Value) (vm₁ : Vm) (B : Pt), s.WarmedH vm₁ ∧ Stand p l e R s m args below meth c B.U B.locs B.cells B.slots ∧ Post ⟨T.setVm vm₁, locs, cells, slots⟩ (Value.ref b :: argsL).toArray v B ∧
      ∀ target, Steps p.tables e below (B.U.setTop { g with pc := g.pc + 3, stack := v.toList ++ rest }) target → Steps p.tables e below (T.setTop g) target := by
  obtain ⟨mk, methM, hnamed, hmethM, hstM, habM⟩ := Cond.instanceMethod_spec hinst
  obtain ⟨m8, methM', cM, hn8, hmethM', -, -, -, -, -, -, hsigM⟩ := Cond.codeWith_spec hcode
  cases Option.some.inj (hn8.symm.trans hnamed)
  cases hmethM.symm.trans hmethM'
  obtain ⟨c2, r2, m2, q1, q2, q3, q4, kP, hkP, hkPi⟩ := Cond.selects_spec hsel
  cases hcls.symm.trans q1
  cases (State.methodFound?_of_named hnamed hy).symm.trans q2
  cases hnamed.symm.trans q3
  have hselP : selectMethod e.platform s.vm cellB.cls mk = .method mk := by rw [Launch.admits_selectMethod X.admits]; exact q4
  obtain ⟨vm₁, X₁, hstep₁⟩ := X.invokevirtual hexec hown hlink hnamed hmethM hstM hkP hkPi hy (a := b) (cell := cellB) hcell
    (fun z h => by rw [h] at hobj; cases hobj) hselP hmethM habM hkP hkPi (g := g) hg (argsL := argsL) (rest := rest) (hlen _ hsigM) hstack hdg
  obtain ⟨v, B, X', hpost, hsteps⟩ := hK m meth c ⟨T.setVm vm₁, locs, cells, slots⟩ { g with stack := rest } (.invokevirtual index) mk (Value.ref b :: argsL).toArray X₁ hg hsize hdg hW (X₁.named hnamed) (hpre vm₁ X₁.warmed)
  exact ⟨v, vm₁, B, X₁.warmed, X', hpost, fun target h => hstep₁ _ fun acts => by rw [doInvoke_state]; exact hsteps.trans h⟩
abbrev vx_CVW (R : Room) (s : State) (args : Array Value) (own C : String) (index : Nat) (y : MethodName) (bytes : ByteArray) (maxL : Nat) (ret : Option FieldType) (hh : List (Nat × Nat × Nat × Nat)) (ws : List Cond) (rm : Room) (mc ms n : Nat) : Prop :=
  (rm.cells = mc ∧ rm.slots = ms ∧ rm.frames + 1 ≤ R.frames ∧ 8 + (maxL + 11) + rm.locals ≤ R.locals ∧ (∀ w ∈ ws, ∀ (a' : Array Value) (U : State), s.WarmedH U.vm → w.before a' U = true) ∧ Cond.codeWith y bytes maxL ret hh ∈ ws) ∧
  (Cond.codeWith y bytes maxL ret hh).before args s = true ∧ (Cond.initialized y.cls).before args s = true ∧ (y.cls ≠ "java/lang/invoke/MethodHandle" ∧ y.cls ≠ "java/lang/invoke/VarHandle") ∧
  (∀ sig, parseMethodDescriptor y.desc = some sig → n = sig.parameters.length) ∧ (Cond.methodLink own index y).before args s = true ∧ (Cond.instanceMethod y).before args s = true ∧ (Cond.selects C y y).before args s = true
theorem vx_cwVW {own C : String} {index maxL mc ms : Nat} {y : MethodName} {bytes : ByteArray} {ret : Option FieldType} {hh : List (Nat × Nat × Nat × Nat)} {Ts ws ws' : List Cond} {rm : Room} (n : Nat) (ht : ∀ w ∈ Ts, w.before args s = true) (hT : GoodIn Ts (wsV own index C y ws)) (hw : ws = Cond.codeWith y bytes maxL ret hh :: ws') (hrc : rm.cells = mc) (hrs : rm.slots = ms)
    (hd : y.cls = C ∧ y.cls ≠ "java/lang/invoke/MethodHandle" ∧ y.cls ≠ "java/lang/invoke/VarHandle" ∧ (parseMethodDescriptor y.desc).map (fun d => d.parameters.length) = some n) (hR : rm.frames + 1 ≤ R.frames ∧ 8 + (maxL + 11) + rm.locals ≤ R.locals) :
    vx_CVW R s args own C index y bytes maxL ret hh ws rm mc ms n := by
  obtain ⟨hC, hd⟩ := hd
  subst hC
  have ok : ∀ w ∈ wsV own index y.cls y ws, w.before args s = true := fun w h => ht w (hT w h).1
  have hG : GoodIn Ts ws := fun w h => hT w (by unfold wsV; exact List.mem_append_right _ h)
  have hc : Cond.codeWith y bytes maxL ret hh ∈ ws := by rw [hw]; exact List.mem_cons_self
  refine ⟨⟨hrc, hrs, hR.1, hR.2, pay_in ht hG, hc⟩, ht _ (hG _ hc).1, ok _ (by simp [wsV]), ⟨hd.1, hd.2.1⟩, fun sig h => ?_, ok _ (by simp [wsV]), ok _ (by simp [wsV]), ok _ (by simp [wsV])⟩
  have h2 := hd.2.2
  rw [h] at h2
  exact (Option.some.inj h2).symm
theorem vx_runVW {y : MethodName} {bytes cc : ByteArray} {maxL nL mc ms n index : Nat} {ret : Option FieldType} {hh : List (Nat × Nat × Nat × Nat)} {ws : List Cond} {rm : Room} {Pc : Array Value → State → Prop} {Qc : Array Value → State → Outcome → State → Prop} {free : Addr → Prop} {Ts : List Cond} {own C : String} {b : Addr} {As rest : List Value} {g : JFrame}
    (S : CallFix p m c cc nL s args Ts own) (hM : Met l y ws rm Pc Qc mc ms free) (cw : vx_CVW R s args own C index y bytes maxL ret hh ws rm mc ms n) (hp : PreV s H C b Pc As)
    (hg : g.method = m) (hn : As.length = n) (hsize : g.locals.size = nL) (hstack : g.stack = As.reverse ++ .ref b :: rest) (hW : 2 * g.monitorRoom + (rest.map fun v => v.category).sum ≤ 8) (hdg : decode cc g.pc = .ok (.invokevirtual index, 3)) (hf : cells + mc ≤ R.cells ∧ slots + ms ≤ R.slots) :
    va_Run p l e R s m args below meth c H locs cells slots mc ms g rest (Qc (Value.ref b :: As).toArray) free := by
  obtain ⟨⟨hrc, hrs, hfr, hlo, hws, hcw⟩, hcode, hini, hy, hlen, hl, hin, hse⟩ := cw
  have hK : Back l R p e below s args y 3 8 (PreOf R mc ms Pc) (PostOf Qc mc ms free) := va_backW (hh := hh) (bytes := bytes) (maxL := maxL) (ret := ret) hM hp.1 hrc hrs hfr hlo hws hcw (fun a' U hW => word_at hW (Or.inl (by first | rfl | simp [Cond.onTables, Cond.keeps, Cond.steady])) hini)
  obtain ⟨hx, hb, hml, ho, -⟩ := S
  obtain ⟨-, ⟨cellB, hcB, hoB, hclB⟩, hPc⟩ := hp
  intro T hT X
  obtain ⟨v, vm₁, ⟨U', l2, c2, s2⟩, hW₁, X', ⟨g', mk, t, L, e1, e2, hq, h1, hL, h2, h3⟩, st⟩ := vx_callVW X hx (C := C) (hh := hh) (bytes := bytes) (maxL := maxL) (ret := ret) ho hl hin hse hcode hy hK (by rw [hT]; exact hcB) hoB hclB hg (hsize.trans hml.symm) (argsL := As) (rest := rest) (fun sig h => hn.trans (hlen sig h)) hstack hW (by rw [hb]; exact hdg)
    (fun vm₁ hW₁ => ⟨hf.1, hf.2, hPc (T.setVm vm₁) hT hW₁⟩)
  dsimp only [Pt.U, Pt.locs, Pt.cells, Pt.slots] at X' e1 e2 h1 h2 h3 st
  subst h1; subst h2; subst h3
  exact ⟨v, (T.setVm vm₁).calling g' mk (Value.ref b :: As).toArray, t, U', L, hT, X', hL, e1, e2, hq, st⟩
section
variable {y : MethodName} {bytes cc : ByteArray} {maxL nL mc ms n index : Nat} {ret : Option FieldType} {ws : List Cond} {rm : Room} {Pc : Array Value → State → Prop} {Qc : Array Value → State → Outcome → State → Prop} {XC : String → State → State → Prop} {free : Addr → Prop} {Ts : List Cond} {own C : String} {b : Addr} {As rest : List Value} {g : JFrame}
theorem vx_runVX {hh : List (Nat × Nat × Nat × Nat)} (S : CallFix p m c cc nL s args Ts own) (hM : vx_Met l y ws rm Pc Qc XC mc ms free) (cw : vx_CVW R s args own C index y bytes maxL ret hh ws rm mc ms n) (hp : PreV s H C b Pc As)
    (hg : g.method = m) (hn : As.length = n) (hsize : g.locals.size = nL) (hstack : g.stack = As.reverse ++ .ref b :: rest) (hW : 2 * g.monitorRoom + (rest.map fun v => v.category).sum ≤ 8) (hdg : decode cc g.pc = .ok (.invokevirtual index, 3)) (hf : cells + mc ≤ R.cells ∧ slots + ms ≤ R.slots) :
    vx_Run p l e R s m args below meth c H locs cells slots mc ms g rest (Qc (Value.ref b :: As).toArray) XC free := by
  obtain ⟨⟨hrc, hrs, hfr, hlo, hws, hcw⟩, hcode, hini, hy, hlen, hl, hin, hse⟩ := cw
  have hK : vx_Back l R p e below s args y 3 8 (PreOf R mc ms Pc) (PostOf Qc mc ms free) (vx_Post XC mc ms free) := vx_backW (hh := hh) (bytes := bytes) (maxL := maxL) (ret := ret) hM hp.1 hrc hrs hfr hlo hws hcw (fun a' U hW => word_at hW (Or.inl (by first | rfl | simp [Cond.onTables, Cond.keeps, Cond.steady])) hini)
  obtain ⟨hx, hb, hml, ho, -⟩ := S
  obtain ⟨-, ⟨cellB, hcB, hoB, hclB⟩, hPc⟩ := hp
  intro T hT X
  rcases vx_callVX X hx (C := C) (hh := hh) (bytes := bytes) (maxL := maxL) (ret := ret) ho hl hin hse hcode hy hK (by rw [hT]; exact hcB) hoB hclB hg (hsize.trans hml.symm) (argsL := As) (rest := rest) (fun sig h => hn.trans (hlen sig h)) hstack hW (by rw [hb]; exact hdg)
    (fun vm₁ hW₁ => ⟨hf.1, hf.2, hPc (T.setVm vm₁) hT hW₁⟩) with ⟨v, vm₁, ⟨U', l2, c2, s2⟩, hW₁, X', ⟨g', mk, t, L, e1, e2, hq, h1, hL, h2, h3⟩, st⟩ | ⟨q, vm₁, ⟨U', l2, c2, s2⟩, hW₁, X', ⟨g', mk, t, L, E, ce, e1, e2, hq, hce, hcv, hcl, h1, hL, h2, h3⟩, st⟩
  · dsimp only [Pt.U, Pt.locs, Pt.cells, Pt.slots] at X' e1 e2 h1 h2 h3 st
    subst h1; subst h2; subst h3
    exact Or.inl ⟨v, (T.setVm vm₁).calling g' mk (Value.ref b :: As).toArray, t, U', L, hT, X', hL, e1, e2, hq, st⟩
  · dsimp only [Pt.U, Pt.locs, Pt.cells, Pt.slots] at X' e1 e2 h1 h2 h3 st hcl
    subst h1; subst h2; subst h3
    exact Or.inr ⟨q, (T.setVm vm₁).calling g' mk (Value.ref b :: As).toArray, t, U', L, E, ce, hT, X', hL, e1, e2, hq, hce, hcv, vx_cls hW₁ hcl, st⟩
theorem vx_runSX {hh : List (Nat × Nat × Nat × Nat)} (S : CallFix p m c cc nL s args Ts own) (hM : vx_Met l y ws rm Pc Qc XC mc ms free) (cw : vx_CSW R s args own index y bytes maxL ret hh ws rm mc ms n) (hp : PreS s H Pc As)
    (hg : g.method = m) (hn : As.length = n) (hsize : g.locals.size = nL) (hstack : g.stack = As.reverse ++ rest) (hW : 2 * g.monitorRoom + (rest.map fun v => v.category).sum ≤ 8) (hdg : decode cc g.pc = .ok (.invokestatic index, 3)) (hf : cells + mc ≤ R.cells ∧ slots + ms ≤ R.slots) :
    vx_Run p l e R s m args below meth c H locs cells slots mc ms g rest (Qc As.toArray) XC free := by
  obtain ⟨⟨hrc, hrs, hfr, hlo, hws, hcw⟩, hcode, hini, hy, hlen, hl, hstt⟩ := cw
  have hK : vx_Back l R p e below s args y 3 8 (PreOf R mc ms Pc) (PostOf Qc mc ms free) (vx_Post XC mc ms free) := vx_backW (hh := hh) (bytes := bytes) (maxL := maxL) (ret := ret) hM hp.1 hrc hrs hfr hlo hws hcw (fun a' U hW => word_at hW (Or.inl (by first | rfl | simp [Cond.onTables, Cond.keeps, Cond.steady])) hini)
  obtain ⟨hx, hb, hml, ho, -⟩ := S
  intro T hT X
  rcases vx_callSX X hx (hh := hh) (bytes := bytes) (maxL := maxL) (ret := ret) ho hl hstt hini hcode hy hK hg (hsize.trans hml.symm) (argsL := As) (rest := rest) (fun sig h => hn.trans (hlen sig h)) hstack hW (by rw [hb]; exact hdg)
    (fun vm₁ hW₁ => ⟨hf.1, hf.2, hp.2 (T.setVm vm₁) hT hW₁⟩) with ⟨v, vm₁, ⟨U', l2, c2, s2⟩, hW₁, X', ⟨g', mk, t, L, e1, e2, hq, h1, hL, h2, h3⟩, st⟩ | ⟨q, vm₁, ⟨U', l2, c2, s2⟩, hW₁, X', ⟨g', mk, t, L, E, ce, e1, e2, hq, hce, hcv, hcl, h1, hL, h2, h3⟩, st⟩
  · dsimp only [Pt.U, Pt.locs, Pt.cells, Pt.slots] at X' e1 e2 h1 h2 h3 st
    subst h1; subst h2; subst h3
    exact Or.inl ⟨v, (T.setVm vm₁).calling g' mk As.toArray, t, U', L, hT, X', hL, e1, e2, hq, st⟩
  · dsimp only [Pt.U, Pt.locs, Pt.cells, Pt.slots] at X' e1 e2 h1 h2 h3 st hcl
    subst h1; subst h2; subst h3
    exact Or.inr ⟨q, (T.setVm vm₁).calling g' mk As.toArray, t, U', L, E, ce, hT, X', hL, e1, e2, hq, hce, hcv, vx_cls hW₁ hcl, st⟩
end
end VXH
theorem vx_ofWH {l : Launch} {y : MethodName} {ws ws' : List Cond} {rm : Room} {Pc : Array Value → State → Prop} {Qc : Array Value → State → Outcome → State → Prop} {XC : String → State → State → Prop} {mc ms : Nat} {free : Addr → Prop} {cc : ByteArray} {maxL : Nat} {ret : Option FieldType} {hh : List (Nat × Nat × Nat × Nat)}
    (hy : plainName y.cls = true) (hw : ws = Cond.codeWith y cc maxL ret hh :: ws')
    (body : ∀ p e s m args below meth c s₁, BodyLoose p l y (headSpec ws rm) cc maxL ret e s m args below meth c s₁ → c.maxLocals = maxL → Pc args s →
      W p l e (headSpec ws rm).room s m args below meth c s.heap [] 0 0 (vx_MQ below Qc XC args s mc ms free) (entryFrame m args maxL)) : vx_Met l y ws rm Pc Qc XC mc ms free := by
  refine MetFree.of_bodyS (code := cc) (maxLocals := maxL) (ret := ret) hy ?_ ?_
  · intro args s m h hn
    obtain ⟨m9, meth, c, hn9, h1, h2, h3, h4, -, h5, h6, -⟩ := Cond.codeWith_spec (atoms_spec (ws := ws) h _ (by rw [hw]; exact List.mem_cons_self))
    cases hn.symm.trans hn9
    exact ⟨meth, c, h1, h2, h3, h4, h5, h6⟩
  · intro p e s m args below meth c s₁ B hml hP _
    have hh0 : s₁.heap = s.heap := by rw [B.state]; rfl
    obtain ⟨t, a1, o, b1, b2, b3⟩ := body p e s m args below meth c s₁ B hml hP s₁ hh0 (Stand.of_body B)
    exact ⟨t, o, a1, b1, b2, b3⟩
/-! ===== END ===== -/
end
section
/-! ===== BEGIN printed: names, fields, word lists, decode rows ===== -/
def RX0 : String := "CraneYard$Hauls"
def TX0 : u_T := fun k => match k with
  | 0 => ("CraneYard$Hauls", "crates", "[I", true)
  | 1 => ("CraneYard$Hauls", "lastDays", "[I", true)
  | 2 => ("CraneYard$Hauls", "states", "[I", true)
  | 3 => ("CraneYard$Hauls", "prices", "[I", true)
  | 4 => ("CraneYard$Hauls", "bids", "[I", true)
  | 5 => ("CraneYard$Hauls", "count", "I", false)
  | 6 => ("CraneYard$Hauls", "pricesPaid", "I", false)
  | _ => ("CraneYard$Hauls", "owed", "I", false)
def tyX0 : Nat → FieldType := fun k => match k with
  | 0 => .array .int
  | 1 => .array .int
  | 2 => .array .int
  | 3 => .array .int
  | 4 => .array .int
  | 5 => .int
  | 6 => .int
  | _ => .int
abbrev wsX00 : List Cond := u_ws RX0 TX0 8
theorem nmX0 : ∀ a, a < 8 → ∀ b, b < 8 → a ≠ b → (TX0 a).2.1 ≠ (TX0 b).2.1 := by decide +kernel
theorem tyX0_ok : ∀ k, k < 8 → parseFieldDescriptor (TX0 k).2.2.1 = some (tyX0 k) := by decide +kernel
abbrev cX0_init : ByteArray := prog_2_method_1_code
def yX0_init : MethodName := ⟨RX0, "<init>", "()V"⟩
abbrev cX0_number : ByteArray := prog_2_method_2_code
def yX0_number : MethodName := ⟨RX0, "number", "()I"⟩
abbrev cX0_pricesOfDone : ByteArray := prog_2_method_3_code
def yX0_pricesOfDone : MethodName := ⟨RX0, "pricesOfDone", "()I"⟩
abbrev cX0_owedForLate : ByteArray := prog_2_method_4_code
def yX0_owedForLate : MethodName := ⟨RX0, "owedForLate", "()I"⟩
abbrev cX0_stateOf : ByteArray := prog_2_method_5_code
def yX0_stateOf : MethodName := ⟨RX0, "stateOf", "(I)I"⟩
abbrev cX0_isOpen : ByteArray := prog_2_method_6_code
def yX0_isOpen : MethodName := ⟨RX0, "isOpen", "(I)Z"⟩
abbrev cX0_openHaulOf : ByteArray := prog_2_method_7_code
def yX0_openHaulOf : MethodName := ⟨RX0, "openHaulOf", "(I)I"⟩
abbrev cX0_add : ByteArray := prog_2_method_8_code
def yX0_add : MethodName := ⟨RX0, "add", "(II)I"⟩
abbrev cX0_isPlaceForBid : ByteArray := prog_2_method_9_code
def yX0_isPlaceForBid : MethodName := ⟨RX0, "isPlaceForBid", "(II)Z"⟩
abbrev cX0_priceAsked : ByteArray := prog_2_method_10_code
def yX0_priceAsked : MethodName := ⟨RX0, "priceAsked", "(II)I"⟩
abbrev cX0_enterBid : ByteArray := prog_2_method_11_code
def yX0_enterBid : MethodName := ⟨RX0, "enterBid", "(III)V"⟩
abbrev cX0_cheapestHaulier : ByteArray := prog_2_method_12_code
def yX0_cheapestHaulier : MethodName := ⟨RX0, "cheapestHaulier", "(I)I"⟩
abbrev cX0_giveTo : ByteArray := prog_2_method_13_code
def yX0_giveTo : MethodName := ⟨RX0, "giveTo", "(II)V"⟩
abbrev cX0_finish : ByteArray := prog_2_method_14_code
def yX0_finish : MethodName := ⟨RX0, "finish", "(I)I"⟩
abbrev cX0_endDay : ByteArray := prog_2_method_15_code
def yX0_endDay : MethodName := ⟨RX0, "endDay", "(I)V"⟩
def RX1 : String := "CraneYard$Stacks"
def TX1 : u_T := fun k => match k with
  | 0 => ("CraneYard$Stacks", "heights", "[I", true)
  | 1 => ("CraneYard$Stacks", "cells", "[I", true)
  | _ => ("CraneYard$Stacks", "weights", "[I", true)
def tyX1 : Nat → FieldType := fun k => match k with
  | 0 => .array .int
  | 1 => .array .int
  | _ => .array .int
abbrev wsX10 : List Cond := u_ws RX1 TX1 3
theorem nmX1 : ∀ a, a < 3 → ∀ b, b < 3 → a ≠ b → (TX1 a).2.1 ≠ (TX1 b).2.1 := by decide +kernel
theorem tyX1_ok : ∀ k, k < 3 → parseFieldDescriptor (TX1 k).2.2.1 = some (tyX1 k) := by decide +kernel
abbrev cX1_init : ByteArray := prog_3_method_1_code
def yX1_init : MethodName := ⟨RX1, "<init>", "()V"⟩
abbrev cX1_copyFrom : ByteArray := prog_3_method_2_code
def yX1_copyFrom : MethodName := ⟨RX1, "copyFrom", "(LCraneYard$Stacks;)V"⟩
abbrev cX1_setWeight : ByteArray := prog_3_method_3_code
def yX1_setWeight : MethodName := ⟨RX1, "setWeight", "(II)V"⟩
abbrev cX1_weightOf : ByteArray := prog_3_method_4_code
def yX1_weightOf : MethodName := ⟨RX1, "weightOf", "(I)I"⟩
abbrev cX1_heightOf : ByteArray := prog_3_method_5_code
def yX1_heightOf : MethodName := ⟨RX1, "heightOf", "(I)I"⟩
abbrev cX1_crateAt : ByteArray := prog_3_method_6_code
def yX1_crateAt : MethodName := ⟨RX1, "crateAt", "(II)I"⟩
abbrev cX1_topOf : ByteArray := prog_3_method_7_code
def yX1_topOf : MethodName := ⟨RX1, "topOf", "(I)I"⟩
abbrev cX1_stackHolding : ByteArray := prog_3_method_8_code
def yX1_stackHolding : MethodName := ⟨RX1, "stackHolding", "(I)I"⟩
abbrev cX1_canTake : ByteArray := prog_3_method_9_code
def yX1_canTake : MethodName := ⟨RX1, "canTake", "(III)Z"⟩
abbrev cX1_put : ByteArray := prog_3_method_10_code
def yX1_put : MethodName := ⟨RX1, "put", "(II)V"⟩
abbrev cX1_takeTop : ByteArray := prog_3_method_11_code
def yX1_takeTop : MethodName := ⟨RX1, "takeTop", "(I)I"⟩
abbrev cX1_digOut : ByteArray := prog_3_method_12_code
def yX1_digOut : MethodName := ⟨RX1, "digOut", "(II)I"⟩
abbrev cX1_targetFor : ByteArray := prog_3_method_13_code
def yX1_targetFor : MethodName := ⟨RX1, "targetFor", "(III)I"⟩
abbrev cX1_cratesAbove : ByteArray := prog_3_method_14_code
def yX1_cratesAbove : MethodName := ⟨RX1, "cratesAbove", "(I)I"⟩
abbrev cX1_feeOfOneDay : ByteArray := prog_3_method_15_code
def yX1_feeOfOneDay : MethodName := ⟨RX1, "feeOfOneDay", "()I"⟩
def RX2 : String := "CraneYard$Words"
def TX2 : u_T := fun k => match k with
  | 0 => ("CraneYard$Words", "letters", "[I", true)
  | 1 => ("CraneYard$Words", "lengths", "[I", true)
  | 2 => ("CraneYard$Words", "paid", "[Z", true)
  | 3 => ("CraneYard$Words", "count", "I", false)
  | _ => ("CraneYard$Words", "sum", "I", false)
def tyX2 : Nat → FieldType := fun k => match k with
  | 0 => .array .int
  | 1 => .array .int
  | 2 => .array .boolean
  | 3 => .int
  | _ => .int
abbrev wsX20 : List Cond := u_ws RX2 TX2 5
theorem nmX2 : ∀ a, a < 5 → ∀ b, b < 5 → a ≠ b → (TX2 a).2.1 ≠ (TX2 b).2.1 := by decide +kernel
theorem tyX2_ok : ∀ k, k < 5 → parseFieldDescriptor (TX2 k).2.2.1 = some (tyX2 k) := by decide +kernel
abbrev cX2_init : ByteArray := prog_4_method_1_code
def yX2_init : MethodName := ⟨RX2, "<init>", "()V"⟩
abbrev cX2_number : ByteArray := prog_4_method_2_code
def yX2_number : MethodName := ⟨RX2, "number", "()I"⟩
abbrev cX2_isPaid : ByteArray := prog_4_method_3_code
def yX2_isPaid : MethodName := ⟨RX2, "isPaid", "(I)Z"⟩
abbrev cX2_paidInAll : ByteArray := prog_4_method_4_code
def yX2_paidInAll : MethodName := ⟨RX2, "paidInAll", "()I"⟩
abbrev cX2_add : ByteArray := prog_4_method_5_code
def yX2_add : MethodName := ⟨RX2, "add", "(IIII)I"⟩
abbrev cX2_payShown : ByteArray := prog_4_method_6_code
def yX2_payShown : MethodName := ⟨RX2, "payShown", "([II)V"⟩
abbrev cX2_isShown : ByteArray := prog_4_method_7_code
def yX2_isShown : MethodName := ⟨RX2, "isShown", "(I[II)Z"⟩
abbrev cX2_isShownFrom : ByteArray := prog_4_method_8_code
def yX2_isShownFrom : MethodName := ⟨RX2, "isShownFrom", "(II[I)Z"⟩
def RX3 : String := "CraneYard"
def TX3 : u_T := fun k => match k with
  | 0 => ("CraneYard", "stacks", "LCraneYard$Stacks;", true)
  | 1 => ("CraneYard", "trial", "LCraneYard$Stacks;", true)
  | 2 => ("CraneYard", "words", "LCraneYard$Words;", true)
  | 3 => ("CraneYard", "hauls", "LCraneYard$Hauls;", true)
  | 4 => ("CraneYard", "letters", "[I", true)
  | 5 => ("CraneYard", "lids", "[I", true)
  | 6 => ("CraneYard", "crateCount", "I", false)
  | 7 => ("CraneYard", "craneCrate", "I", false)
  | 8 => ("CraneYard", "liftCount", "I", false)
  | 9 => ("CraneYard", "day", "I", false)
  | 10 => ("CraneYard", "stormy", "Z", false)
  | _ => ("CraneYard", "fees", "I", false)
def tyX3 : Nat → FieldType := fun k => match k with
  | 0 => .object "CraneYard$Stacks"
  | 1 => .object "CraneYard$Stacks"
  | 2 => .object "CraneYard$Words"
  | 3 => .object "CraneYard$Hauls"
  | 4 => .array .int
  | 5 => .array .int
  | 6 => .int
  | 7 => .int
  | 8 => .int
  | 9 => .int
  | 10 => .boolean
  | _ => .int
abbrev wsX30 : List Cond := u_ws RX3 TX3 12
theorem nmX3 : ∀ a, a < 12 → ∀ b, b < 12 → a ≠ b → (TX3 a).2.1 ≠ (TX3 b).2.1 := by decide +kernel
theorem tyX3_ok : ∀ k, k < 12 → parseFieldDescriptor (TX3 k).2.2.1 = some (tyX3 k) := by decide +kernel
abbrev cX3_init : ByteArray := prog_1_method_1_code
def yX3_init : MethodName := ⟨RX3, "<init>", "()V"⟩
abbrev cX3_arrive : ByteArray := prog_1_method_2_code
def yX3_arrive : MethodName := ⟨RX3, "arrive", "(III)I"⟩
abbrev cX3_lift : ByteArray := prog_1_method_3_code
def yX3_lift : MethodName := ⟨RX3, "lift", "(I)I"⟩
abbrev cX3_drop : ByteArray := prog_1_method_4_code
def yX3_drop : MethodName := ⟨RX3, "drop", "(I)I"⟩
abbrev cX3_dig : ByteArray := prog_1_method_5_code
def yX3_dig : MethodName := ⟨RX3, "dig", "(I)I"⟩
abbrev cX3_crane : ByteArray := prog_1_method_6_code
def yX3_crane : MethodName := ⟨RX3, "crane", "()I"⟩
abbrev cX3_height : ByteArray := prog_1_method_7_code
def yX3_height : MethodName := ⟨RX3, "height", "(I)I"⟩
abbrev cX3_at : ByteArray := prog_1_method_8_code
def yX3_at : MethodName := ⟨RX3, "at", "(II)I"⟩
abbrev cX3_stackOf : ByteArray := prog_1_method_9_code
def yX3_stackOf : MethodName := ⟨RX3, "stackOf", "(I)I"⟩
abbrev cX3_lifts : ByteArray := prog_1_method_10_code
def yX3_lifts : MethodName := ⟨RX3, "lifts", "()I"⟩
abbrev cX3_fewestLifts : ByteArray := prog_1_method_11_code
def yX3_fewestLifts : MethodName := ⟨RX3, "fewestLifts", "(I)I"⟩
abbrev cX3_tell : ByteArray := prog_1_method_12_code
def yX3_tell : MethodName := ⟨RX3, "tell", "(IIII)I"⟩
abbrev cX3_hasPaid : ByteArray := prog_1_method_13_code
def yX3_hasPaid : MethodName := ⟨RX3, "hasPaid", "(I)Z"⟩
abbrev cX3_bonus : ByteArray := prog_1_method_14_code
def yX3_bonus : MethodName := ⟨RX3, "bonus", "()I"⟩
abbrev cX3_offer : ByteArray := prog_1_method_15_code
def yX3_offer : MethodName := ⟨RX3, "offer", "(II)I"⟩
abbrev cX3_bid : ByteArray := prog_1_method_16_code
def yX3_bid : MethodName := ⟨RX3, "bid", "(III)V"⟩
abbrev cX3_give : ByteArray := prog_1_method_17_code
def yX3_give : MethodName := ⟨RX3, "give", "(I)I"⟩
abbrev cX3_load : ByteArray := prog_1_method_18_code
def yX3_load : MethodName := ⟨RX3, "load", "()I"⟩
abbrev cX3_state : ByteArray := prog_1_method_19_code
def yX3_state : MethodName := ⟨RX3, "state", "(I)I"⟩
abbrev cX3_storm : ByteArray := prog_1_method_20_code
def yX3_storm : MethodName := ⟨RX3, "storm", "()I"⟩
abbrev cX3_pass : ByteArray := prog_1_method_21_code
def yX3_pass : MethodName := ⟨RX3, "pass", "(I)I"⟩
abbrev cX3_today : ByteArray := prog_1_method_22_code
def yX3_today : MethodName := ⟨RX3, "today", "()I"⟩
abbrev cX3_balance : ByteArray := prog_1_method_23_code
def yX3_balance : MethodName := ⟨RX3, "balance", "()I"⟩
abbrev cX3_requireStack : ByteArray := prog_1_method_24_code
def yX3_requireStack : MethodName := ⟨RX3, "requireStack", "(I)V"⟩
abbrev cX3_requireLetter : ByteArray := prog_1_method_25_code
def yX3_requireLetter : MethodName := ⟨RX3, "requireLetter", "(I)V"⟩
abbrev cX3_requireCrate : ByteArray := prog_1_method_26_code
def yX3_requireCrate : MethodName := ⟨RX3, "requireCrate", "(I)V"⟩
abbrev cX3_requireHaul : ByteArray := prog_1_method_27_code
def yX3_requireHaul : MethodName := ⟨RX3, "requireHaul", "(I)V"⟩
abbrev cX3_requireOffered : ByteArray := prog_1_method_28_code
def yX3_requireOffered : MethodName := ⟨RX3, "requireOffered", "(I)V"⟩
abbrev cX3_requireEmptyCrane : ByteArray := prog_1_method_29_code
def yX3_requireEmptyCrane : MethodName := ⟨RX3, "requireEmptyCrane", "()V"⟩
abbrev cX3_requireFullCrane : ByteArray := prog_1_method_30_code
def yX3_requireFullCrane : MethodName := ⟨RX3, "requireFullCrane", "()V"⟩
abbrev cX3_requireInStack : ByteArray := prog_1_method_31_code
def yX3_requireInStack : MethodName := ⟨RX3, "requireInStack", "(I)V"⟩
abbrev cX3_requireRoom : ByteArray := prog_1_method_32_code
def yX3_requireRoom : MethodName := ⟨RX3, "requireRoom", "(II)V"⟩
abbrev cX3_mostPlaces : ByteArray := prog_1_method_33_code
def yX3_mostPlaces : MethodName := ⟨RX3, "mostPlaces", "()I"⟩
abbrev cX3_payWords : ByteArray := prog_1_method_34_code
def yX3_payWords : MethodName := ⟨RX3, "payWords", "()V"⟩
abbrev cX3_endDay : ByteArray := prog_1_method_35_code
def yX3_endDay : MethodName := ⟨RX3, "endDay", "()V"⟩
abbrev cX3_areInStacks : ByteArray := prog_1_method_36_code
def yX3_areInStacks : MethodName := ⟨RX3, "areInStacks", "(I)Z"⟩
abbrev cX3_contains : ByteArray := prog_1_method_37_code
def yX3_contains : MethodName := ⟨RX3, "contains", "(II)Z"⟩
abbrev cX3_ordersOf : ByteArray := prog_1_method_38_code
def yX3_ordersOf : MethodName := ⟨RX3, "ordersOf", "(I)I"⟩
abbrev cX3_liftsInOrder : ByteArray := prog_1_method_39_code
def yX3_liftsInOrder : MethodName := ⟨RX3, "liftsInOrder", "(II)I"⟩
abbrev cX3_memberOf : ByteArray := prog_1_method_40_code
def yX3_memberOf : MethodName := ⟨RX3, "memberOf", "(II)I"⟩
def RX4 : String := "CraneYardModel"
def TX4 : u_T := fun k => match k with
  | 0 => ("CraneYardModel", "thrown", "I", false)
  | 1 => ("CraneYardModel", "yard", "[I", true)
  | 2 => ("CraneYardModel", "heights", "[I", true)
  | 3 => ("CraneYardModel", "weights", "[I", true)
  | 4 => ("CraneYardModel", "letters", "[I", true)
  | 5 => ("CraneYardModel", "crates", "I", false)
  | 6 => ("CraneYardModel", "crane", "I", false)
  | 7 => ("CraneYardModel", "lifts", "I", false)
  | 8 => ("CraneYardModel", "tried", "[I", true)
  | 9 => ("CraneYardModel", "triedHeights", "[I", true)
  | 10 => ("CraneYardModel", "words", "[I", true)
  | 11 => ("CraneYardModel", "hasPaid", "[Z", true)
  | 12 => ("CraneYardModel", "many", "I", false)
  | 13 => ("CraneYardModel", "bonus", "I", false)
  | 14 => ("CraneYardModel", "loads", "[I", true)
  | 15 => ("CraneYardModel", "lastDays", "[I", true)
  | 16 => ("CraneYardModel", "states", "[I", true)
  | 17 => ("CraneYardModel", "prices", "[I", true)
  | 18 => ("CraneYardModel", "bids", "[I", true)
  | 19 => ("CraneYardModel", "hauls", "I", false)
  | 20 => ("CraneYardModel", "today", "I", false)
  | 21 => ("CraneYardModel", "isStorm", "Z", false)
  | _ => ("CraneYardModel", "fees", "I", false)
def tyX4 : Nat → FieldType := fun k => match k with
  | 0 => .int
  | 1 => .array .int
  | 2 => .array .int
  | 3 => .array .int
  | 4 => .array .int
  | 5 => .int
  | 6 => .int
  | 7 => .int
  | 8 => .array .int
  | 9 => .array .int
  | 10 => .array .int
  | 11 => .array .boolean
  | 12 => .int
  | 13 => .int
  | 14 => .array .int
  | 15 => .array .int
  | 16 => .array .int
  | 17 => .array .int
  | 18 => .array .int
  | 19 => .int
  | 20 => .int
  | 21 => .boolean
  | _ => .int
abbrev wsX40 : List Cond := u_ws RX4 TX4 23
theorem nmX4 : ∀ a, a < 23 → ∀ b, b < 23 → a ≠ b → (TX4 a).2.1 ≠ (TX4 b).2.1 := by decide +kernel
theorem tyX4_ok : ∀ k, k < 23 → parseFieldDescriptor (TX4 k).2.2.1 = some (tyX4 k) := by decide +kernel
abbrev cX4_init : ByteArray := prog_6_method_1_code
def yX4_init : MethodName := ⟨RX4, "<init>", "()V"⟩
abbrev cX4_thrown : ByteArray := prog_6_method_2_code
def yX4_thrown : MethodName := ⟨RX4, "thrown", "()I"⟩
abbrev cX4_goesWell : ByteArray := prog_6_method_3_code
def yX4_goesWell : MethodName := ⟨RX4, "goesWell", "(I)Z"⟩
abbrev cX4_in : ByteArray := prog_6_method_4_code
def yX4_in : MethodName := ⟨RX4, "in", "(III)Z"⟩
abbrev cX4_isStack : ByteArray := prog_6_method_5_code
def yX4_isStack : MethodName := ⟨RX4, "isStack", "(I)Z"⟩
abbrev cX4_isCrate : ByteArray := prog_6_method_6_code
def yX4_isCrate : MethodName := ⟨RX4, "isCrate", "(I)Z"⟩
abbrev cX4_isHaul : ByteArray := prog_6_method_7_code
def yX4_isHaul : MethodName := ⟨RX4, "isHaul", "(I)Z"⟩
abbrev cX4_most : ByteArray := prog_6_method_8_code
def yX4_most : MethodName := ⟨RX4, "most", "()I"⟩
abbrev cX4_canPut : ByteArray := prog_6_method_9_code
def yX4_canPut : MethodName := ⟨RX4, "canPut", "(II)Z"⟩
abbrev cX4_put : ByteArray := prog_6_method_10_code
def yX4_put : MethodName := ⟨RX4, "put", "(II)V"⟩
abbrev cX4_topOf : ByteArray := prog_6_method_11_code
def yX4_topOf : MethodName := ⟨RX4, "topOf", "(I)I"⟩
abbrev cX4_isOnLids : ByteArray := prog_6_method_12_code
def yX4_isOnLids : MethodName := ⟨RX4, "isOnLids", "(II)Z"⟩
abbrev cX4_sizeOf : ByteArray := prog_6_method_13_code
def yX4_sizeOf : MethodName := ⟨RX4, "sizeOf", "(I)I"⟩
abbrev cX4_payWords : ByteArray := prog_6_method_14_code
def yX4_payWords : MethodName := ⟨RX4, "payWords", "()V"⟩
abbrev cX4_arrive : ByteArray := prog_6_method_15_code
def yX4_arrive : MethodName := ⟨RX4, "arrive", "(III)I"⟩
abbrev cX4_lift : ByteArray := prog_6_method_16_code
def yX4_lift : MethodName := ⟨RX4, "lift", "(I)I"⟩
abbrev cX4_drop : ByteArray := prog_6_method_17_code
def yX4_drop : MethodName := ⟨RX4, "drop", "(I)I"⟩
abbrev cX4_copyYard : ByteArray := prog_6_method_18_code
def yX4_copyYard : MethodName := ⟨RX4, "copyYard", "()V"⟩
abbrev cX4_canTry : ByteArray := prog_6_method_19_code
def yX4_canTry : MethodName := ⟨RX4, "canTry", "(II)Z"⟩
abbrev cX4_find : ByteArray := prog_6_method_20_code
def yX4_find : MethodName := ⟨RX4, "find", "(I)I"⟩
abbrev cX4_digOut : ByteArray := prog_6_method_21_code
def yX4_digOut : MethodName := ⟨RX4, "digOut", "(I)I"⟩
abbrev cX4_dig : ByteArray := prog_6_method_22_code
def yX4_dig : MethodName := ⟨RX4, "dig", "(I)I"⟩
abbrev cX4_crane : ByteArray := prog_6_method_23_code
def yX4_crane : MethodName := ⟨RX4, "crane", "()I"⟩
abbrev cX4_height : ByteArray := prog_6_method_24_code
def yX4_height : MethodName := ⟨RX4, "height", "(I)I"⟩
abbrev cX4_at : ByteArray := prog_6_method_25_code
def yX4_at : MethodName := ⟨RX4, "at", "(II)I"⟩
abbrev cX4_stackOf : ByteArray := prog_6_method_26_code
def yX4_stackOf : MethodName := ⟨RX4, "stackOf", "(I)I"⟩
abbrev cX4_lifts : ByteArray := prog_6_method_27_code
def yX4_lifts : MethodName := ⟨RX4, "lifts", "()I"⟩
abbrev cX4_member : ByteArray := prog_6_method_28_code
def yX4_member : MethodName := ⟨RX4, "member", "(II)I"⟩
abbrev cX4_bits : ByteArray := prog_6_method_29_code
def yX4_bits : MethodName := ⟨RX4, "bits", "(I)I"⟩
abbrev cX4_isSet : ByteArray := prog_6_method_30_code
def yX4_isSet : MethodName := ⟨RX4, "isSet", "(I)Z"⟩
abbrev cX4_liftsBy : ByteArray := prog_6_method_31_code
def yX4_liftsBy : MethodName := ⟨RX4, "liftsBy", "(III)I"⟩
abbrev cX4_fewestLifts : ByteArray := prog_6_method_32_code
def yX4_fewestLifts : MethodName := ⟨RX4, "fewestLifts", "(I)I"⟩
abbrev cX4_isLetter : ByteArray := prog_6_method_33_code
def yX4_isLetter : MethodName := ⟨RX4, "isLetter", "(I)Z"⟩
abbrev cX4_tell : ByteArray := prog_6_method_34_code
def yX4_tell : MethodName := ⟨RX4, "tell", "(IIII)I"⟩
abbrev cX4_hasPaid : ByteArray := prog_6_method_35_code
def yX4_hasPaid : MethodName := ⟨RX4, "hasPaid", "(I)Z"⟩
abbrev cX4_bonus : ByteArray := prog_6_method_36_code
def yX4_bonus : MethodName := ⟨RX4, "bonus", "()I"⟩
abbrev cX4_haulOf : ByteArray := prog_6_method_37_code
def yX4_haulOf : MethodName := ⟨RX4, "haulOf", "(I)I"⟩
abbrev cX4_offer : ByteArray := prog_6_method_38_code
def yX4_offer : MethodName := ⟨RX4, "offer", "(II)I"⟩
abbrev cX4_bid : ByteArray := prog_6_method_39_code
def yX4_bid : MethodName := ⟨RX4, "bid", "(III)V"⟩
abbrev cX4_cheapest : ByteArray := prog_6_method_40_code
def yX4_cheapest : MethodName := ⟨RX4, "cheapest", "(I)I"⟩
abbrev cX4_give : ByteArray := prog_6_method_41_code
def yX4_give : MethodName := ⟨RX4, "give", "(I)I"⟩
abbrev cX4_load : ByteArray := prog_6_method_42_code
def yX4_load : MethodName := ⟨RX4, "load", "()I"⟩
abbrev cX4_state : ByteArray := prog_6_method_43_code
def yX4_state : MethodName := ⟨RX4, "state", "(I)I"⟩
abbrev cX4_storm : ByteArray := prog_6_method_44_code
def yX4_storm : MethodName := ⟨RX4, "storm", "()I"⟩
abbrev cX4_endDay : ByteArray := prog_6_method_45_code
def yX4_endDay : MethodName := ⟨RX4, "endDay", "()I"⟩
abbrev cX4_pass : ByteArray := prog_6_method_46_code
def yX4_pass : MethodName := ⟨RX4, "pass", "(I)I"⟩
abbrev cX4_today : ByteArray := prog_6_method_47_code
def yX4_today : MethodName := ⟨RX4, "today", "()I"⟩
abbrev cX4_balance : ByteArray := prog_6_method_48_code
def yX4_balance : MethodName := ⟨RX4, "balance", "()I"⟩
def RJ6 : String := "java/lang/Integer"
def TJ6 : u_T := fun k => match k with
  | _ => ("", "", "", false)
def tyJ6 : Nat → FieldType := fun k => match k with
  | _ => .int
abbrev wsJ60 : List Cond := u_ws RJ6 TJ6 0
theorem nmJ6 : ∀ a, a < 0 → ∀ b, b < 0 → a ≠ b → (TJ6 a).2.1 ≠ (TJ6 b).2.1 := by decide +kernel
theorem tyJ6_ok : ∀ k, k < 0 → parseFieldDescriptor (TJ6 k).2.2.1 = some (tyJ6 k) := by decide +kernel
abbrev cJ6_bitCount_0f7a4 : ByteArray := prog_11_method_49_code
def yJ6_bitCount_0f7a4 : MethodName := ⟨RJ6, "bitCount", "(I)I"⟩
def RJ9 : String := "java/lang/Math"
def TJ9 : u_T := fun k => match k with
  | _ => ("", "", "", false)
def tyJ9 : Nat → FieldType := fun k => match k with
  | _ => .int
abbrev wsJ90 : List Cond := u_ws RJ9 TJ9 0
theorem nmJ9 : ∀ a, a < 0 → ∀ b, b < 0 → a ≠ b → (TJ9 a).2.1 ≠ (TJ9 b).2.1 := by decide +kernel
theorem tyJ9_ok : ∀ k, k < 0 → parseFieldDescriptor (TJ9 k).2.2.1 = some (tyJ9 k) := by decide +kernel
abbrev cJ9_max_7cf53 : ByteArray := prog_12_method_65_code
def yJ9_max_7cf53 : MethodName := ⟨RJ9, "max", "(II)I"⟩
def RJ0 : String := "java/lang/String"
def TJ0 : u_T := fun k => match k with
  | _ => ("", "", "", false)
def tyJ0 : Nat → FieldType := fun k => match k with
  | _ => .int
abbrev wsJ00 : List Cond := u_ws RJ0 TJ0 0
theorem nmJ0 : ∀ a, a < 0 → ∀ b, b < 0 → a ≠ b → (TJ0 a).2.1 ≠ (TJ0 b).2.1 := by decide +kernel
theorem tyJ0_ok : ∀ k, k < 0 → parseFieldDescriptor (TJ0 k).2.2.1 = some (tyJ0 k) := by decide +kernel
def RJ10 : String := "java/lang/System"
def TJ10 : u_T := fun k => match k with
  | _ => ("", "", "", false)
def tyJ10 : Nat → FieldType := fun k => match k with
  | _ => .int
abbrev wsJ100 : List Cond := u_ws RJ10 TJ10 0
theorem nmJ10 : ∀ a, a < 0 → ∀ b, b < 0 → a ≠ b → (TJ10 a).2.1 ≠ (TJ10 b).2.1 := by decide +kernel
theorem tyJ10_ok : ∀ k, k < 0 → parseFieldDescriptor (TJ10 k).2.2.1 = some (tyJ10 k) := by decide +kernel
def RL : String := "CraneYardLaw"
abbrev cL_arrive : ByteArray := method_3_code
def yL_arrive : MethodName := ⟨RL, "arrive", "(LCraneYard;III[J)I"⟩
abbrev cL_lift : ByteArray := method_4_code
def yL_lift : MethodName := ⟨RL, "lift", "(LCraneYard;I[J)I"⟩
abbrev cL_drop : ByteArray := method_5_code
def yL_drop : MethodName := ⟨RL, "drop", "(LCraneYard;I[J)I"⟩
abbrev cL_dig : ByteArray := method_6_code
def yL_dig : MethodName := ⟨RL, "dig", "(LCraneYard;I[J)I"⟩
abbrev cL_height : ByteArray := method_7_code
def yL_height : MethodName := ⟨RL, "height", "(LCraneYard;I[J)I"⟩
abbrev cL_at : ByteArray := method_8_code
def yL_at : MethodName := ⟨RL, "at", "(LCraneYard;II[J)I"⟩
abbrev cL_stackOf : ByteArray := method_9_code
def yL_stackOf : MethodName := ⟨RL, "stackOf", "(LCraneYard;I[J)I"⟩
abbrev cL_fewestLifts : ByteArray := method_10_code
def yL_fewestLifts : MethodName := ⟨RL, "fewestLifts", "(LCraneYard;I[J)I"⟩
abbrev cL_tell : ByteArray := method_11_code
def yL_tell : MethodName := ⟨RL, "tell", "(LCraneYard;IIII[J)I"⟩
abbrev cL_hasPaid : ByteArray := method_12_code
def yL_hasPaid : MethodName := ⟨RL, "hasPaid", "(LCraneYard;I[J)I"⟩
abbrev cL_offer : ByteArray := method_13_code
def yL_offer : MethodName := ⟨RL, "offer", "(LCraneYard;II[J)I"⟩
abbrev cL_bid : ByteArray := method_14_code
def yL_bid : MethodName := ⟨RL, "bid", "(LCraneYard;III)I"⟩
abbrev cL_give : ByteArray := method_15_code
def yL_give : MethodName := ⟨RL, "give", "(LCraneYard;I[J)I"⟩
abbrev cL_load : ByteArray := method_16_code
def yL_load : MethodName := ⟨RL, "load", "(LCraneYard;[J)I"⟩
abbrev cL_state : ByteArray := method_17_code
def yL_state : MethodName := ⟨RL, "state", "(LCraneYard;I[J)I"⟩
abbrev cL_pass : ByteArray := method_18_code
def yL_pass : MethodName := ⟨RL, "pass", "(LCraneYard;I[J)I"⟩
abbrev cL_law : ByteArray := code
def yL_law : MethodName := ⟨RL, "law", "([I)Z"⟩
def wsX0_init : List Cond := .code yX0_init cX0_init 1 none :: ([.methodLink RX0 3 objectInit, .instanceMethod objectInit, .code objectInit ⟨#[0xb1]⟩ 1 none, .arrayClass .int, .fieldLink RX0 9 "CraneYard$Hauls" "crates" "[I", .fieldLink RX0 15 "CraneYard$Hauls" "lastDays" "[I", .fieldLink RX0 18 "CraneYard$Hauls" "states" "[I", .fieldLink RX0 21 "CraneYard$Hauls" "prices" "[I", .fieldLink RX0 24 "CraneYard$Hauls" "bids" "[I", .fieldLink RX0 27 "CraneYard$Hauls" "count" "I", .fieldLink RX0 31 "CraneYard$Hauls" "pricesPaid" "I", .fieldLink RX0 34 "CraneYard$Hauls" "owed" "I"] ++ wsX00)
def wsX0_number : List Cond := .code yX0_number cX0_number 1 (some .int) :: ([.fieldLink RX0 27 "CraneYard$Hauls" "count" "I"] ++ wsX00)
def wsX0_pricesOfDone : List Cond := .code yX0_pricesOfDone cX0_pricesOfDone 1 (some .int) :: ([.fieldLink RX0 31 "CraneYard$Hauls" "pricesPaid" "I"] ++ wsX00)
def wsX0_owedForLate : List Cond := .code yX0_owedForLate cX0_owedForLate 1 (some .int) :: ([.fieldLink RX0 34 "CraneYard$Hauls" "owed" "I"] ++ wsX00)
def wsX0_stateOf : List Cond := .code yX0_stateOf cX0_stateOf 2 (some .int) :: ([.fieldLink RX0 27 "CraneYard$Hauls" "count" "I", .fieldLink RX0 18 "CraneYard$Hauls" "states" "[I"] ++ wsX00)
def wsX0_isOpen : List Cond := .code yX0_isOpen cX0_isOpen 3 (some .boolean) :: ([.methodLink RX0 37 yX0_stateOf, .instanceMethod yX0_stateOf, .selects RX0 yX0_stateOf yX0_stateOf, .initialized RX0, .code yX0_stateOf cX0_stateOf 2 (some .int), .fieldLink RX0 27 "CraneYard$Hauls" "count" "I", .fieldLink RX0 18 "CraneYard$Hauls" "states" "[I"] ++ wsX00)
def wsX0_openHaulOf : List Cond := .code yX0_openHaulOf cX0_openHaulOf 3 (some .int) :: ([.fieldLink RX0 27 "CraneYard$Hauls" "count" "I", .fieldLink RX0 9 "CraneYard$Hauls" "crates" "[I", .methodLink RX0 41 yX0_isOpen, .instanceMethod yX0_isOpen, .selects RX0 yX0_isOpen yX0_isOpen, .initialized RX0, .code yX0_isOpen cX0_isOpen 3 (some .boolean), .methodLink RX0 37 yX0_stateOf, .instanceMethod yX0_stateOf, .selects RX0 yX0_stateOf yX0_stateOf, .code yX0_stateOf cX0_stateOf 2 (some .int), .fieldLink RX0 18 "CraneYard$Hauls" "states" "[I"] ++ wsX00)
def wsX0_add : List Cond := .code yX0_add cX0_add 4 (some .int) :: ([.fieldLink RX0 27 "CraneYard$Hauls" "count" "I", .fieldLink RX0 9 "CraneYard$Hauls" "crates" "[I", .fieldLink RX0 15 "CraneYard$Hauls" "lastDays" "[I", .fieldLink RX0 18 "CraneYard$Hauls" "states" "[I"] ++ wsX00)
def wsX0_isPlaceForBid : List Cond := .code yX0_isPlaceForBid cX0_isPlaceForBid 3 (some .boolean) :: ([.fieldLink RX0 27 "CraneYard$Hauls" "count" "I"] ++ wsX00)
def wsX0_priceAsked : List Cond := .code yX0_priceAsked cX0_priceAsked 3 (some .int) :: ([.fieldLink RX0 24 "CraneYard$Hauls" "bids" "[I", .methodLink RX0 45 yX0_isPlaceForBid, .instanceMethod yX0_isPlaceForBid, .selects RX0 yX0_isPlaceForBid yX0_isPlaceForBid, .initialized RX0, .code yX0_isPlaceForBid cX0_isPlaceForBid 3 (some .boolean), .fieldLink RX0 27 "CraneYard$Hauls" "count" "I"] ++ wsX00)
def wsX0_enterBid : List Cond := .code yX0_enterBid cX0_enterBid 4 none :: ([.fieldLink RX0 24 "CraneYard$Hauls" "bids" "[I", .methodLink RX0 45 yX0_isPlaceForBid, .instanceMethod yX0_isPlaceForBid, .selects RX0 yX0_isPlaceForBid yX0_isPlaceForBid, .initialized RX0, .code yX0_isPlaceForBid cX0_isPlaceForBid 3 (some .boolean), .fieldLink RX0 27 "CraneYard$Hauls" "count" "I"] ++ wsX00)
def wsX0_cheapestHaulier : List Cond := .code yX0_cheapestHaulier cX0_cheapestHaulier 5 (some .int) :: ([.methodLink RX0 49 yX0_priceAsked, .instanceMethod yX0_priceAsked, .selects RX0 yX0_priceAsked yX0_priceAsked, .initialized RX0, .code yX0_priceAsked cX0_priceAsked 3 (some .int), .fieldLink RX0 24 "CraneYard$Hauls" "bids" "[I", .methodLink RX0 45 yX0_isPlaceForBid, .instanceMethod yX0_isPlaceForBid, .selects RX0 yX0_isPlaceForBid yX0_isPlaceForBid, .code yX0_isPlaceForBid cX0_isPlaceForBid 3 (some .boolean), .fieldLink RX0 27 "CraneYard$Hauls" "count" "I"] ++ wsX00)
def wsX0_giveTo : List Cond := .code yX0_giveTo cX0_giveTo 3 none :: ([.fieldLink RX0 18 "CraneYard$Hauls" "states" "[I", .fieldLink RX0 21 "CraneYard$Hauls" "prices" "[I", .methodLink RX0 45 yX0_isPlaceForBid, .instanceMethod yX0_isPlaceForBid, .selects RX0 yX0_isPlaceForBid yX0_isPlaceForBid, .initialized RX0, .code yX0_isPlaceForBid cX0_isPlaceForBid 3 (some .boolean), .fieldLink RX0 27 "CraneYard$Hauls" "count" "I", .methodLink RX0 49 yX0_priceAsked, .instanceMethod yX0_priceAsked, .selects RX0 yX0_priceAsked yX0_priceAsked, .code yX0_priceAsked cX0_priceAsked 3 (some .int), .fieldLink RX0 24 "CraneYard$Hauls" "bids" "[I"] ++ wsX00)
def wsX0_finish : List Cond := .code yX0_finish cX0_finish 2 (some .int) :: ([.fieldLink RX0 27 "CraneYard$Hauls" "count" "I", .fieldLink RX0 18 "CraneYard$Hauls" "states" "[I", .fieldLink RX0 31 "CraneYard$Hauls" "pricesPaid" "I", .fieldLink RX0 21 "CraneYard$Hauls" "prices" "[I"] ++ wsX00)
def wsX0_endDay : List Cond := .code yX0_endDay cX0_endDay 3 none :: ([.fieldLink RX0 27 "CraneYard$Hauls" "count" "I", .fieldLink RX0 15 "CraneYard$Hauls" "lastDays" "[I", .fieldLink RX0 18 "CraneYard$Hauls" "states" "[I", .fieldLink RX0 34 "CraneYard$Hauls" "owed" "I", .methodLink RX0 41 yX0_isOpen, .instanceMethod yX0_isOpen, .selects RX0 yX0_isOpen yX0_isOpen, .initialized RX0, .code yX0_isOpen cX0_isOpen 3 (some .boolean), .methodLink RX0 37 yX0_stateOf, .instanceMethod yX0_stateOf, .selects RX0 yX0_stateOf yX0_stateOf, .code yX0_stateOf cX0_stateOf 2 (some .int)] ++ wsX00)
def wsX1_init : List Cond := .code yX1_init cX1_init 1 none :: ([.methodLink RX1 3 objectInit, .instanceMethod objectInit, .code objectInit ⟨#[0xb1]⟩ 1 none, .arrayClass .int, .fieldLink RX1 9 "CraneYard$Stacks" "heights" "[I", .fieldLink RX1 15 "CraneYard$Stacks" "cells" "[I", .fieldLink RX1 18 "CraneYard$Stacks" "weights" "[I"] ++ wsX10)
def wsX1_copyFrom : List Cond := .code yX1_copyFrom cX1_copyFrom 2 none :: ([.fieldLink RX1 9 "CraneYard$Stacks" "heights" "[I", .methodLink RX1 21 arraycopyName, .native arraycopyName, .static arraycopyName, .initialized "java/lang/System", .fieldLink RX1 15 "CraneYard$Stacks" "cells" "[I", .fieldLink RX1 18 "CraneYard$Stacks" "weights" "[I"] ++ wsX10)
def wsX1_setWeight : List Cond := .code yX1_setWeight cX1_setWeight 3 none :: ([.fieldLink RX1 18 "CraneYard$Stacks" "weights" "[I"] ++ wsX10)
def wsX1_weightOf : List Cond := .code yX1_weightOf cX1_weightOf 2 (some .int) :: ([.fieldLink RX1 18 "CraneYard$Stacks" "weights" "[I"] ++ wsX10)
def wsX1_heightOf : List Cond := .code yX1_heightOf cX1_heightOf 2 (some .int) :: ([.fieldLink RX1 9 "CraneYard$Stacks" "heights" "[I"] ++ wsX10)
def wsX1_crateAt : List Cond := .code yX1_crateAt cX1_crateAt 3 (some .int) :: ([.fieldLink RX1 15 "CraneYard$Stacks" "cells" "[I", .methodLink RX1 27 yX1_heightOf, .instanceMethod yX1_heightOf, .selects RX1 yX1_heightOf yX1_heightOf, .initialized RX1, .code yX1_heightOf cX1_heightOf 2 (some .int), .fieldLink RX1 9 "CraneYard$Stacks" "heights" "[I"] ++ wsX10)
def wsX1_topOf : List Cond := .code yX1_topOf cX1_topOf 3 (some .int) :: ([.fieldLink RX1 15 "CraneYard$Stacks" "cells" "[I", .methodLink RX1 27 yX1_heightOf, .instanceMethod yX1_heightOf, .selects RX1 yX1_heightOf yX1_heightOf, .initialized RX1, .code yX1_heightOf cX1_heightOf 2 (some .int), .fieldLink RX1 9 "CraneYard$Stacks" "heights" "[I"] ++ wsX10)
def wsX1_stackHolding : List Cond := .code yX1_stackHolding cX1_stackHolding 4 (some .int) :: ([.fieldLink RX1 9 "CraneYard$Stacks" "heights" "[I", .fieldLink RX1 15 "CraneYard$Stacks" "cells" "[I"] ++ wsX10)
def wsX1_canTake : List Cond := .code yX1_canTake cX1_canTake 5 (some .boolean) :: ([.methodLink RX1 27 yX1_heightOf, .instanceMethod yX1_heightOf, .selects RX1 yX1_heightOf yX1_heightOf, .initialized RX1, .code yX1_heightOf cX1_heightOf 2 (some .int), .fieldLink RX1 9 "CraneYard$Stacks" "heights" "[I", .methodLink RX1 31 yX1_topOf, .instanceMethod yX1_topOf, .selects RX1 yX1_topOf yX1_topOf, .code yX1_topOf cX1_topOf 3 (some .int), .fieldLink RX1 15 "CraneYard$Stacks" "cells" "[I", .methodLink RX1 34 yX1_weightOf, .instanceMethod yX1_weightOf, .selects RX1 yX1_weightOf yX1_weightOf, .code yX1_weightOf cX1_weightOf 2 (some .int), .fieldLink RX1 18 "CraneYard$Stacks" "weights" "[I"] ++ wsX10)
def wsX1_put : List Cond := .code yX1_put cX1_put 4 none :: ([.fieldLink RX1 15 "CraneYard$Stacks" "cells" "[I", .fieldLink RX1 9 "CraneYard$Stacks" "heights" "[I", .methodLink RX1 27 yX1_heightOf, .instanceMethod yX1_heightOf, .selects RX1 yX1_heightOf yX1_heightOf, .initialized RX1, .code yX1_heightOf cX1_heightOf 2 (some .int)] ++ wsX10)
def wsX1_takeTop : List Cond := .code yX1_takeTop cX1_takeTop 3 (some .int) :: ([.fieldLink RX1 9 "CraneYard$Stacks" "heights" "[I", .methodLink RX1 31 yX1_topOf, .instanceMethod yX1_topOf, .selects RX1 yX1_topOf yX1_topOf, .initialized RX1, .code yX1_topOf cX1_topOf 3 (some .int), .fieldLink RX1 15 "CraneYard$Stacks" "cells" "[I", .methodLink RX1 27 yX1_heightOf, .instanceMethod yX1_heightOf, .selects RX1 yX1_heightOf yX1_heightOf, .code yX1_heightOf cX1_heightOf 2 (some .int)] ++ wsX10)
def wsX1_targetFor : List Cond := .code yX1_targetFor cX1_targetFor 6 (some .int) :: ([.methodLink RX1 51 yX1_canTake, .instanceMethod yX1_canTake, .selects RX1 yX1_canTake yX1_canTake, .initialized RX1, .code yX1_canTake cX1_canTake 5 (some .boolean), .methodLink RX1 27 yX1_heightOf, .instanceMethod yX1_heightOf, .selects RX1 yX1_heightOf yX1_heightOf, .code yX1_heightOf cX1_heightOf 2 (some .int), .fieldLink RX1 9 "CraneYard$Stacks" "heights" "[I", .methodLink RX1 31 yX1_topOf, .instanceMethod yX1_topOf, .selects RX1 yX1_topOf yX1_topOf, .code yX1_topOf cX1_topOf 3 (some .int), .fieldLink RX1 15 "CraneYard$Stacks" "cells" "[I", .methodLink RX1 34 yX1_weightOf, .instanceMethod yX1_weightOf, .selects RX1 yX1_weightOf yX1_weightOf, .code yX1_weightOf cX1_weightOf 2 (some .int), .fieldLink RX1 18 "CraneYard$Stacks" "weights" "[I"] ++ wsX10)
def wsX1_digOut_r1 : List Cond := [Cond.methodLink RX1 37 yX1_stackHolding, Cond.instanceMethod yX1_stackHolding, Cond.selects RX1 yX1_stackHolding yX1_stackHolding, Cond.initialized RX1, Cond.code yX1_stackHolding cX1_stackHolding 4 (some .int), Cond.fieldLink RX1 9 "CraneYard$Stacks" "heights" "[I", Cond.fieldLink RX1 15 "CraneYard$Stacks" "cells" "[I", Cond.methodLink RX1 40 yX1_takeTop, Cond.instanceMethod yX1_takeTop, Cond.selects RX1 yX1_takeTop yX1_takeTop, Cond.code yX1_takeTop cX1_takeTop 3 (some .int), Cond.methodLink RX1 31 yX1_topOf, Cond.instanceMethod yX1_topOf, Cond.selects RX1 yX1_topOf yX1_topOf, Cond.code yX1_topOf cX1_topOf 3 (some .int), Cond.methodLink RX1 27 yX1_heightOf, Cond.instanceMethod yX1_heightOf, Cond.selects RX1 yX1_heightOf yX1_heightOf, Cond.code yX1_heightOf cX1_heightOf 2 (some .int), Cond.methodLink RX1 34 yX1_weightOf, Cond.instanceMethod yX1_weightOf, Cond.selects RX1 yX1_weightOf yX1_weightOf, Cond.code yX1_weightOf cX1_weightOf 2 (some .int), Cond.fieldLink RX1 18 "CraneYard$Stacks" "weights" "[I"]
def wsX1_digOut_r2 : List Cond := [Cond.methodLink RX1 43 yX1_targetFor, Cond.instanceMethod yX1_targetFor, Cond.selects RX1 yX1_targetFor yX1_targetFor, Cond.code yX1_targetFor cX1_targetFor 6 (some .int), Cond.methodLink RX1 51 yX1_canTake, Cond.instanceMethod yX1_canTake, Cond.selects RX1 yX1_canTake yX1_canTake, Cond.code yX1_canTake cX1_canTake 5 (some .boolean), Cond.methodLink RX1 47 yX1_put, Cond.instanceMethod yX1_put, Cond.selects RX1 yX1_put yX1_put, Cond.code yX1_put cX1_put 4 none]
def wsX1_digOut : List Cond := .code yX1_digOut cX1_digOut 7 (some .int) :: ((wsX1_digOut_r1 ++ wsX1_digOut_r2) ++ wsX10)
def wsX1_cratesAbove : List Cond := .code yX1_cratesAbove cX1_cratesAbove 4 (some .int) :: ([.fieldLink RX1 9 "CraneYard$Stacks" "heights" "[I", .methodLink RX1 55 Lib.Math.max.name, .static Lib.Math.max.name, .initialized "java/lang/Math", .code Lib.Math.max.name Lib.Math.max.code 2 (some .int)] ++ wsX10)
def wsX1_feeOfOneDay : List Cond := .code yX1_feeOfOneDay cX1_feeOfOneDay 3 (some .int) :: ([.fieldLink RX1 9 "CraneYard$Stacks" "heights" "[I"] ++ wsX10)
def wsX2_init : List Cond := .code yX2_init cX2_init 1 none :: ([.methodLink RX2 3 objectInit, .instanceMethod objectInit, .code objectInit ⟨#[0xb1]⟩ 1 none, .arrayClass .int, .fieldLink RX2 9 "CraneYard$Words" "letters" "[I", .fieldLink RX2 15 "CraneYard$Words" "lengths" "[I", .arrayClass .boolean, .fieldLink RX2 18 "CraneYard$Words" "paid" "[Z", .fieldLink RX2 22 "CraneYard$Words" "count" "I", .fieldLink RX2 26 "CraneYard$Words" "sum" "I"] ++ wsX20)
def wsX2_number : List Cond := .code yX2_number cX2_number 1 (some .int) :: ([.fieldLink RX2 22 "CraneYard$Words" "count" "I"] ++ wsX20)
def wsX2_isPaid : List Cond := .code yX2_isPaid cX2_isPaid 2 (some .boolean) :: ([.fieldLink RX2 22 "CraneYard$Words" "count" "I", .fieldLink RX2 18 "CraneYard$Words" "paid" "[Z"] ++ wsX20)
def wsX2_paidInAll : List Cond := .code yX2_paidInAll cX2_paidInAll 1 (some .int) :: ([.fieldLink RX2 26 "CraneYard$Words" "sum" "I"] ++ wsX20)
def wsX2_add : List Cond := .code yX2_add cX2_add 7 (some .int) :: ([.fieldLink RX2 22 "CraneYard$Words" "count" "I", .fieldLink RX2 9 "CraneYard$Words" "letters" "[I", .fieldLink RX2 15 "CraneYard$Words" "lengths" "[I"] ++ wsX20)
def wsX2_isShownFrom : List Cond := .code yX2_isShownFrom cX2_isShownFrom 5 (some .boolean) :: ([.fieldLink RX2 15 "CraneYard$Words" "lengths" "[I", .fieldLink RX2 9 "CraneYard$Words" "letters" "[I"] ++ wsX20)
def wsX2_isShown : List Cond := .code yX2_isShown cX2_isShown 6 (some .boolean) :: ([.fieldLink RX2 15 "CraneYard$Words" "lengths" "[I", .methodLink RX2 33 yX2_isShownFrom, .instanceMethod yX2_isShownFrom, .selects RX2 yX2_isShownFrom yX2_isShownFrom, .initialized RX2, .code yX2_isShownFrom cX2_isShownFrom 5 (some .boolean), .fieldLink RX2 9 "CraneYard$Words" "letters" "[I"] ++ wsX20)
def wsX2_payShown : List Cond := .code yX2_payShown cX2_payShown 4 none :: ([.fieldLink RX2 22 "CraneYard$Words" "count" "I", .fieldLink RX2 18 "CraneYard$Words" "paid" "[Z", .fieldLink RX2 26 "CraneYard$Words" "sum" "I", .fieldLink RX2 15 "CraneYard$Words" "lengths" "[I", .methodLink RX2 29 yX2_isShown, .instanceMethod yX2_isShown, .selects RX2 yX2_isShown yX2_isShown, .initialized RX2, .code yX2_isShown cX2_isShown 6 (some .boolean), .methodLink RX2 33 yX2_isShownFrom, .instanceMethod yX2_isShownFrom, .selects RX2 yX2_isShownFrom yX2_isShownFrom, .code yX2_isShownFrom cX2_isShownFrom 5 (some .boolean), .fieldLink RX2 9 "CraneYard$Words" "letters" "[I"] ++ wsX20)
def wsX3_init_r1 : List Cond := [Cond.methodLink RX3 1 objectInit, Cond.instanceMethod objectInit, Cond.code objectInit ⟨#[0xb1]⟩ 1 none, Cond.classLink RX3 7 RX1, Cond.instantiable RX1 3, Cond.initialized RX1, Cond.fieldLink RX3 10 "CraneYard" "stacks" "LCraneYard$Stacks;", Cond.fieldLink RX3 16 "CraneYard" "trial" "LCraneYard$Stacks;", Cond.classLink RX3 19 RX2, Cond.instantiable RX2 5, Cond.initialized RX2, Cond.fieldLink RX3 22 "CraneYard" "words" "LCraneYard$Words;", Cond.classLink RX3 26 RX0, Cond.instantiable RX0 8, Cond.initialized RX0, Cond.fieldLink RX3 29 "CraneYard" "hauls" "LCraneYard$Hauls;", Cond.arrayClass .int, Cond.fieldLink RX3 33 "CraneYard" "letters" "[I", Cond.fieldLink RX3 37 "CraneYard" "lids" "[I", Cond.fieldLink RX3 40 "CraneYard" "crateCount" "I", Cond.fieldLink RX3 44 "CraneYard" "craneCrate" "I", Cond.fieldLink RX3 47 "CraneYard" "liftCount" "I", Cond.fieldLink RX3 50 "CraneYard" "day" "I", Cond.fieldLink RX3 53 "CraneYard" "stormy" "Z"]
def wsX3_init_r2 : List Cond := [Cond.fieldLink RX3 57 "CraneYard" "fees" "I", Cond.instanceMethod yX1_init, Cond.code yX1_init cX1_init 1 none, Cond.methodLink RX1 3 objectInit, Cond.fieldLink RX1 9 "CraneYard$Stacks" "heights" "[I", Cond.fieldLink RX1 15 "CraneYard$Stacks" "cells" "[I", Cond.fieldLink RX1 18 "CraneYard$Stacks" "weights" "[I", Cond.instanceMethod yX2_init, Cond.code yX2_init cX2_init 1 none, Cond.methodLink RX2 3 objectInit, Cond.fieldLink RX2 9 "CraneYard$Words" "letters" "[I", Cond.fieldLink RX2 15 "CraneYard$Words" "lengths" "[I", Cond.arrayClass .boolean, Cond.fieldLink RX2 18 "CraneYard$Words" "paid" "[Z", Cond.fieldLink RX2 22 "CraneYard$Words" "count" "I", Cond.fieldLink RX2 26 "CraneYard$Words" "sum" "I", Cond.instanceMethod yX0_init, Cond.code yX0_init cX0_init 1 none, Cond.methodLink RX0 3 objectInit, Cond.fieldLink RX0 9 "CraneYard$Hauls" "crates" "[I", Cond.fieldLink RX0 15 "CraneYard$Hauls" "lastDays" "[I", Cond.fieldLink RX0 18 "CraneYard$Hauls" "states" "[I", Cond.fieldLink RX0 21 "CraneYard$Hauls" "prices" "[I", Cond.fieldLink RX0 24 "CraneYard$Hauls" "bids" "[I"]
def wsX3_init_r3 : List Cond := [Cond.fieldLink RX0 27 "CraneYard$Hauls" "count" "I", Cond.fieldLink RX0 31 "CraneYard$Hauls" "pricesPaid" "I", Cond.fieldLink RX0 34 "CraneYard$Hauls" "owed" "I"]
def wsX3_init : List Cond := .code yX3_init cX3_init 1 none :: ((wsX3_init_r1 ++ (wsX3_init_r2 ++ wsX3_init_r3)) ++ wsX10 ++ wsX30 ++ wsX20 ++ wsX00)
def wsX3_requireLetter : List Cond := .code yX3_requireLetter cX3_requireLetter 1 none :: ([.classLink RX3 60 "java/lang/IllegalArgumentException", .initialized "java/lang/IllegalArgumentException"] ++ (vx_atS RX3 64 "java/lang/IllegalArgumentException" ["java/lang/RuntimeException", "java/lang/Exception"]).filter goodWord)
def wsX3_requireStack : List Cond := .code yX3_requireStack cX3_requireStack 1 none :: ([.classLink RX3 60 "java/lang/IllegalArgumentException", .initialized "java/lang/IllegalArgumentException"] ++ (vx_atS RX3 64 "java/lang/IllegalArgumentException" ["java/lang/RuntimeException", "java/lang/Exception"]).filter goodWord)
def wsX3_mostPlaces : List Cond := .code yX3_mostPlaces cX3_mostPlaces 1 (some .int) :: ([.fieldLink RX3 53 "CraneYard" "stormy" "Z"] ++ wsX30)
def wsX3_requireRoom_r1 : List Cond := [Cond.classLink RX3 74 "java/lang/IllegalStateException", Cond.initialized "java/lang/IllegalStateException", Cond.fieldLink RX3 10 "CraneYard" "stacks" "LCraneYard$Stacks;", Cond.methodLink RX3 120 yX3_mostPlaces, Cond.instanceMethod yX3_mostPlaces, Cond.selects RX3 yX3_mostPlaces yX3_mostPlaces, Cond.initialized RX3, Cond.code yX3_mostPlaces cX3_mostPlaces 1 (some .int), Cond.fieldLink RX3 53 "CraneYard" "stormy" "Z", Cond.methodLink RX3 256 yX1_canTake, Cond.instanceMethod yX1_canTake, Cond.selects RX1 yX1_canTake yX1_canTake, Cond.initialized RX1, Cond.code yX1_canTake cX1_canTake 5 (some .boolean), Cond.methodLink RX1 27 yX1_heightOf, Cond.instanceMethod yX1_heightOf, Cond.selects RX1 yX1_heightOf yX1_heightOf, Cond.code yX1_heightOf cX1_heightOf 2 (some .int), Cond.fieldLink RX1 9 "CraneYard$Stacks" "heights" "[I", Cond.methodLink RX1 31 yX1_topOf, Cond.instanceMethod yX1_topOf, Cond.selects RX1 yX1_topOf yX1_topOf, Cond.code yX1_topOf cX1_topOf 3 (some .int), Cond.fieldLink RX1 15 "CraneYard$Stacks" "cells" "[I"]
def wsX3_requireRoom_r2 : List Cond := [Cond.methodLink RX1 34 yX1_weightOf, Cond.instanceMethod yX1_weightOf, Cond.selects RX1 yX1_weightOf yX1_weightOf, Cond.code yX1_weightOf cX1_weightOf 2 (some .int), Cond.fieldLink RX1 18 "CraneYard$Stacks" "weights" "[I"]
def wsX3_requireRoom : List Cond := .code yX3_requireRoom cX3_requireRoom 3 none :: ((wsX3_requireRoom_r1 ++ wsX3_requireRoom_r2) ++ wsX30 ++ wsX10 ++ (vx_atS RX3 78 "java/lang/IllegalStateException" ["java/lang/RuntimeException", "java/lang/Exception"]).filter goodWord)
def wsX3_payWords_r1 : List Cond := [Cond.fieldLink RX3 10 "CraneYard" "stacks" "LCraneYard$Stacks;", Cond.fieldLink RX3 37 "CraneYard" "lids" "[I", Cond.fieldLink RX3 33 "CraneYard" "letters" "[I", Cond.fieldLink RX3 22 "CraneYard" "words" "LCraneYard$Words;", Cond.methodLink RX3 262 yX1_topOf, Cond.instanceMethod yX1_topOf, Cond.selects RX1 yX1_topOf yX1_topOf, Cond.initialized RX1, Cond.code yX1_topOf cX1_topOf 3 (some .int), Cond.fieldLink RX1 15 "CraneYard$Stacks" "cells" "[I", Cond.methodLink RX1 27 yX1_heightOf, Cond.instanceMethod yX1_heightOf, Cond.selects RX1 yX1_heightOf yX1_heightOf, Cond.code yX1_heightOf cX1_heightOf 2 (some .int), Cond.fieldLink RX1 9 "CraneYard$Stacks" "heights" "[I", Cond.methodLink RX3 265 yX2_payShown, Cond.instanceMethod yX2_payShown, Cond.selects RX2 yX2_payShown yX2_payShown, Cond.initialized RX2, Cond.code yX2_payShown cX2_payShown 4 none, Cond.fieldLink RX2 22 "CraneYard$Words" "count" "I", Cond.fieldLink RX2 18 "CraneYard$Words" "paid" "[Z", Cond.fieldLink RX2 26 "CraneYard$Words" "sum" "I", Cond.fieldLink RX2 15 "CraneYard$Words" "lengths" "[I"]
def wsX3_payWords_r2 : List Cond := [Cond.methodLink RX2 29 yX2_isShown, Cond.instanceMethod yX2_isShown, Cond.selects RX2 yX2_isShown yX2_isShown, Cond.code yX2_isShown cX2_isShown 6 (some .boolean), Cond.methodLink RX2 33 yX2_isShownFrom, Cond.instanceMethod yX2_isShownFrom, Cond.selects RX2 yX2_isShownFrom yX2_isShownFrom, Cond.code yX2_isShownFrom cX2_isShownFrom 5 (some .boolean), Cond.fieldLink RX2 9 "CraneYard$Words" "letters" "[I"]
def wsX3_payWords : List Cond := .code yX3_payWords cX3_payWords 4 none :: ((wsX3_payWords_r1 ++ wsX3_payWords_r2) ++ wsX30 ++ wsX10 ++ wsX20)
def wsX3_arrive_r1 : List Cond := [Cond.classLink RX3 60 "java/lang/IllegalArgumentException", Cond.initialized "java/lang/IllegalArgumentException", Cond.classLink RX3 74 "java/lang/IllegalStateException", Cond.initialized "java/lang/IllegalStateException", Cond.fieldLink RX3 40 "CraneYard" "crateCount" "I", Cond.fieldLink RX3 33 "CraneYard" "letters" "[I", Cond.fieldLink RX3 10 "CraneYard" "stacks" "LCraneYard$Stacks;", Cond.methodLink RX3 67 yX3_requireLetter, Cond.static yX3_requireLetter, Cond.initialized RX3, Cond.code yX3_requireLetter cX3_requireLetter 1 none, Cond.methodLink RX3 71 yX3_requireStack, Cond.static yX3_requireStack, Cond.code yX3_requireStack cX3_requireStack 1 none, Cond.methodLink RX3 79 yX3_requireRoom, Cond.instanceMethod yX3_requireRoom, Cond.selects RX3 yX3_requireRoom yX3_requireRoom, Cond.code yX3_requireRoom cX3_requireRoom 3 none, Cond.methodLink RX3 120 yX3_mostPlaces, Cond.instanceMethod yX3_mostPlaces, Cond.selects RX3 yX3_mostPlaces yX3_mostPlaces, Cond.code yX3_mostPlaces cX3_mostPlaces 1 (some .int), Cond.fieldLink RX3 53 "CraneYard" "stormy" "Z", Cond.methodLink RX3 256 yX1_canTake]
def wsX3_arrive_r2 : List Cond := [Cond.instanceMethod yX1_canTake, Cond.selects RX1 yX1_canTake yX1_canTake, Cond.initialized RX1, Cond.code yX1_canTake cX1_canTake 5 (some .boolean), Cond.methodLink RX1 27 yX1_heightOf, Cond.instanceMethod yX1_heightOf, Cond.selects RX1 yX1_heightOf yX1_heightOf, Cond.code yX1_heightOf cX1_heightOf 2 (some .int), Cond.fieldLink RX1 9 "CraneYard$Stacks" "heights" "[I", Cond.methodLink RX1 31 yX1_topOf, Cond.instanceMethod yX1_topOf, Cond.selects RX1 yX1_topOf yX1_topOf, Cond.code yX1_topOf cX1_topOf 3 (some .int), Cond.fieldLink RX1 15 "CraneYard$Stacks" "cells" "[I", Cond.methodLink RX1 34 yX1_weightOf, Cond.instanceMethod yX1_weightOf, Cond.selects RX1 yX1_weightOf yX1_weightOf, Cond.code yX1_weightOf cX1_weightOf 2 (some .int), Cond.fieldLink RX1 18 "CraneYard$Stacks" "weights" "[I", Cond.methodLink RX3 83 yX1_setWeight, Cond.instanceMethod yX1_setWeight, Cond.selects RX1 yX1_setWeight yX1_setWeight, Cond.code yX1_setWeight cX1_setWeight 3 none, Cond.methodLink RX3 86 yX1_put]
def wsX3_arrive_r3 : List Cond := [Cond.instanceMethod yX1_put, Cond.selects RX1 yX1_put yX1_put, Cond.code yX1_put cX1_put 4 none, Cond.methodLink RX3 89 yX3_payWords, Cond.instanceMethod yX3_payWords, Cond.selects RX3 yX3_payWords yX3_payWords, Cond.code yX3_payWords cX3_payWords 4 none, Cond.fieldLink RX3 37 "CraneYard" "lids" "[I", Cond.fieldLink RX3 22 "CraneYard" "words" "LCraneYard$Words;", Cond.methodLink RX3 262 yX1_topOf, Cond.methodLink RX3 265 yX2_payShown, Cond.instanceMethod yX2_payShown, Cond.selects RX2 yX2_payShown yX2_payShown, Cond.initialized RX2, Cond.code yX2_payShown cX2_payShown 4 none, Cond.fieldLink RX2 22 "CraneYard$Words" "count" "I", Cond.fieldLink RX2 18 "CraneYard$Words" "paid" "[Z", Cond.fieldLink RX2 26 "CraneYard$Words" "sum" "I", Cond.fieldLink RX2 15 "CraneYard$Words" "lengths" "[I", Cond.methodLink RX2 29 yX2_isShown, Cond.instanceMethod yX2_isShown, Cond.selects RX2 yX2_isShown yX2_isShown, Cond.code yX2_isShown cX2_isShown 6 (some .boolean), Cond.methodLink RX2 33 yX2_isShownFrom]
def wsX3_arrive_r4 : List Cond := [Cond.instanceMethod yX2_isShownFrom, Cond.selects RX2 yX2_isShownFrom yX2_isShownFrom, Cond.code yX2_isShownFrom cX2_isShownFrom 5 (some .boolean), Cond.fieldLink RX2 9 "CraneYard$Words" "letters" "[I"]
def wsX3_arrive : List Cond := .code yX3_arrive cX3_arrive 5 (some .int) :: ((wsX3_arrive_r1 ++ (wsX3_arrive_r2 ++ (wsX3_arrive_r3 ++ wsX3_arrive_r4))) ++ wsX30 ++ wsX10 ++ wsX20 ++ (vx_atS RX3 64 "java/lang/IllegalArgumentException" ["java/lang/RuntimeException", "java/lang/Exception"]).filter goodWord ++ (vx_atS RX3 78 "java/lang/IllegalStateException" ["java/lang/RuntimeException", "java/lang/Exception"]).filter goodWord)
def wsX3_requireEmptyCrane : List Cond := .code yX3_requireEmptyCrane cX3_requireEmptyCrane 1 none :: ([.classLink RX3 74 "java/lang/IllegalStateException", .initialized "java/lang/IllegalStateException", .fieldLink RX3 44 "CraneYard" "craneCrate" "I"] ++ wsX30 ++ (vx_atS RX3 78 "java/lang/IllegalStateException" ["java/lang/RuntimeException", "java/lang/Exception"]).filter goodWord)
def wsX3_lift_r1 : List Cond := [Cond.classLink RX3 74 "java/lang/IllegalStateException", Cond.initialized "java/lang/IllegalStateException", Cond.fieldLink RX3 10 "CraneYard" "stacks" "LCraneYard$Stacks;", Cond.fieldLink RX3 44 "CraneYard" "craneCrate" "I", Cond.fieldLink RX3 47 "CraneYard" "liftCount" "I", Cond.methodLink RX3 71 yX3_requireStack, Cond.static yX3_requireStack, Cond.initialized RX3, Cond.code yX3_requireStack cX3_requireStack 1 none, Cond.classLink RX3 60 "java/lang/IllegalArgumentException", Cond.initialized "java/lang/IllegalArgumentException", Cond.methodLink RX3 92 yX3_requireEmptyCrane, Cond.instanceMethod yX3_requireEmptyCrane, Cond.selects RX3 yX3_requireEmptyCrane yX3_requireEmptyCrane, Cond.code yX3_requireEmptyCrane cX3_requireEmptyCrane 1 none, Cond.methodLink RX3 95 yX1_heightOf, Cond.instanceMethod yX1_heightOf, Cond.selects RX1 yX1_heightOf yX1_heightOf, Cond.initialized RX1, Cond.code yX1_heightOf cX1_heightOf 2 (some .int), Cond.fieldLink RX1 9 "CraneYard$Stacks" "heights" "[I", Cond.methodLink RX3 101 yX1_takeTop, Cond.instanceMethod yX1_takeTop, Cond.selects RX1 yX1_takeTop yX1_takeTop]
def wsX3_lift_r2 : List Cond := [Cond.code yX1_takeTop cX1_takeTop 3 (some .int), Cond.methodLink RX1 31 yX1_topOf, Cond.instanceMethod yX1_topOf, Cond.selects RX1 yX1_topOf yX1_topOf, Cond.code yX1_topOf cX1_topOf 3 (some .int), Cond.fieldLink RX1 15 "CraneYard$Stacks" "cells" "[I", Cond.methodLink RX1 27 yX1_heightOf, Cond.methodLink RX3 89 yX3_payWords, Cond.instanceMethod yX3_payWords, Cond.selects RX3 yX3_payWords yX3_payWords, Cond.code yX3_payWords cX3_payWords 4 none, Cond.fieldLink RX3 37 "CraneYard" "lids" "[I", Cond.fieldLink RX3 33 "CraneYard" "letters" "[I", Cond.fieldLink RX3 22 "CraneYard" "words" "LCraneYard$Words;", Cond.methodLink RX3 262 yX1_topOf, Cond.methodLink RX3 265 yX2_payShown, Cond.instanceMethod yX2_payShown, Cond.selects RX2 yX2_payShown yX2_payShown, Cond.initialized RX2, Cond.code yX2_payShown cX2_payShown 4 none, Cond.fieldLink RX2 22 "CraneYard$Words" "count" "I", Cond.fieldLink RX2 18 "CraneYard$Words" "paid" "[Z", Cond.fieldLink RX2 26 "CraneYard$Words" "sum" "I", Cond.fieldLink RX2 15 "CraneYard$Words" "lengths" "[I"]
def wsX3_lift_r3 : List Cond := [Cond.methodLink RX2 29 yX2_isShown, Cond.instanceMethod yX2_isShown, Cond.selects RX2 yX2_isShown yX2_isShown, Cond.code yX2_isShown cX2_isShown 6 (some .boolean), Cond.methodLink RX2 33 yX2_isShownFrom, Cond.instanceMethod yX2_isShownFrom, Cond.selects RX2 yX2_isShownFrom yX2_isShownFrom, Cond.code yX2_isShownFrom cX2_isShownFrom 5 (some .boolean), Cond.fieldLink RX2 9 "CraneYard$Words" "letters" "[I"]
def wsX3_lift : List Cond := .code yX3_lift cX3_lift 2 (some .int) :: ((wsX3_lift_r1 ++ (wsX3_lift_r2 ++ wsX3_lift_r3)) ++ wsX30 ++ wsX10 ++ wsX20 ++ (vx_atS RX3 78 "java/lang/IllegalStateException" ["java/lang/RuntimeException", "java/lang/Exception"]).filter goodWord ++ (vx_atS RX3 64 "java/lang/IllegalArgumentException" ["java/lang/RuntimeException", "java/lang/Exception"]).filter goodWord)
def wsX3_requireFullCrane : List Cond := .code yX3_requireFullCrane cX3_requireFullCrane 1 none :: ([.classLink RX3 74 "java/lang/IllegalStateException", .initialized "java/lang/IllegalStateException", .fieldLink RX3 44 "CraneYard" "craneCrate" "I"] ++ wsX30 ++ (vx_atS RX3 78 "java/lang/IllegalStateException" ["java/lang/RuntimeException", "java/lang/Exception"]).filter goodWord)
def wsX3_drop_r1 : List Cond := [Cond.fieldLink RX3 10 "CraneYard" "stacks" "LCraneYard$Stacks;", Cond.fieldLink RX3 44 "CraneYard" "craneCrate" "I", Cond.methodLink RX3 71 yX3_requireStack, Cond.static yX3_requireStack, Cond.initialized RX3, Cond.code yX3_requireStack cX3_requireStack 1 none, Cond.classLink RX3 60 "java/lang/IllegalArgumentException", Cond.initialized "java/lang/IllegalArgumentException", Cond.methodLink RX3 104 yX3_requireFullCrane, Cond.instanceMethod yX3_requireFullCrane, Cond.selects RX3 yX3_requireFullCrane yX3_requireFullCrane, Cond.code yX3_requireFullCrane cX3_requireFullCrane 1 none, Cond.classLink RX3 74 "java/lang/IllegalStateException", Cond.initialized "java/lang/IllegalStateException", Cond.methodLink RX3 107 yX1_weightOf, Cond.instanceMethod yX1_weightOf, Cond.selects RX1 yX1_weightOf yX1_weightOf, Cond.initialized RX1, Cond.code yX1_weightOf cX1_weightOf 2 (some .int), Cond.fieldLink RX1 18 "CraneYard$Stacks" "weights" "[I", Cond.methodLink RX3 79 yX3_requireRoom, Cond.instanceMethod yX3_requireRoom, Cond.selects RX3 yX3_requireRoom yX3_requireRoom, Cond.code yX3_requireRoom cX3_requireRoom 3 none]
def wsX3_drop_r2 : List Cond := [Cond.methodLink RX3 120 yX3_mostPlaces, Cond.instanceMethod yX3_mostPlaces, Cond.selects RX3 yX3_mostPlaces yX3_mostPlaces, Cond.code yX3_mostPlaces cX3_mostPlaces 1 (some .int), Cond.fieldLink RX3 53 "CraneYard" "stormy" "Z", Cond.methodLink RX3 256 yX1_canTake, Cond.instanceMethod yX1_canTake, Cond.selects RX1 yX1_canTake yX1_canTake, Cond.code yX1_canTake cX1_canTake 5 (some .boolean), Cond.methodLink RX1 27 yX1_heightOf, Cond.instanceMethod yX1_heightOf, Cond.selects RX1 yX1_heightOf yX1_heightOf, Cond.code yX1_heightOf cX1_heightOf 2 (some .int), Cond.fieldLink RX1 9 "CraneYard$Stacks" "heights" "[I", Cond.methodLink RX1 31 yX1_topOf, Cond.instanceMethod yX1_topOf, Cond.selects RX1 yX1_topOf yX1_topOf, Cond.code yX1_topOf cX1_topOf 3 (some .int), Cond.fieldLink RX1 15 "CraneYard$Stacks" "cells" "[I", Cond.methodLink RX1 34 yX1_weightOf, Cond.methodLink RX3 86 yX1_put, Cond.instanceMethod yX1_put, Cond.selects RX1 yX1_put yX1_put, Cond.code yX1_put cX1_put 4 none]
def wsX3_drop_r3 : List Cond := [Cond.methodLink RX3 89 yX3_payWords, Cond.instanceMethod yX3_payWords, Cond.selects RX3 yX3_payWords yX3_payWords, Cond.code yX3_payWords cX3_payWords 4 none, Cond.fieldLink RX3 37 "CraneYard" "lids" "[I", Cond.fieldLink RX3 33 "CraneYard" "letters" "[I", Cond.fieldLink RX3 22 "CraneYard" "words" "LCraneYard$Words;", Cond.methodLink RX3 262 yX1_topOf, Cond.methodLink RX3 265 yX2_payShown, Cond.instanceMethod yX2_payShown, Cond.selects RX2 yX2_payShown yX2_payShown, Cond.initialized RX2, Cond.code yX2_payShown cX2_payShown 4 none, Cond.fieldLink RX2 22 "CraneYard$Words" "count" "I", Cond.fieldLink RX2 18 "CraneYard$Words" "paid" "[Z", Cond.fieldLink RX2 26 "CraneYard$Words" "sum" "I", Cond.fieldLink RX2 15 "CraneYard$Words" "lengths" "[I", Cond.methodLink RX2 29 yX2_isShown, Cond.instanceMethod yX2_isShown, Cond.selects RX2 yX2_isShown yX2_isShown, Cond.code yX2_isShown cX2_isShown 6 (some .boolean), Cond.methodLink RX2 33 yX2_isShownFrom, Cond.instanceMethod yX2_isShownFrom, Cond.selects RX2 yX2_isShownFrom yX2_isShownFrom]
def wsX3_drop_r4 : List Cond := [Cond.code yX2_isShownFrom cX2_isShownFrom 5 (some .boolean), Cond.fieldLink RX2 9 "CraneYard$Words" "letters" "[I", Cond.methodLink RX3 95 yX1_heightOf]
def wsX3_drop : List Cond := .code yX3_drop cX3_drop 2 (some .int) :: ((wsX3_drop_r1 ++ (wsX3_drop_r2 ++ (wsX3_drop_r3 ++ wsX3_drop_r4))) ++ wsX30 ++ wsX10 ++ wsX20 ++ (vx_atS RX3 64 "java/lang/IllegalArgumentException" ["java/lang/RuntimeException", "java/lang/Exception"]).filter goodWord ++ (vx_atS RX3 78 "java/lang/IllegalStateException" ["java/lang/RuntimeException", "java/lang/Exception"]).filter goodWord)
def wsX3_requireCrate : List Cond := .code yX3_requireCrate cX3_requireCrate 2 none :: ([.classLink RX3 166 "java/lang/IndexOutOfBoundsException", .initialized "java/lang/IndexOutOfBoundsException", .fieldLink RX3 40 "CraneYard" "crateCount" "I"] ++ wsX30 ++ (vx_atS RX3 170 "java/lang/IndexOutOfBoundsException" ["java/lang/RuntimeException", "java/lang/Exception"]).filter goodWord)
def wsX3_requireInStack : List Cond := .code yX3_requireInStack cX3_requireInStack 2 none :: ([.classLink RX3 74 "java/lang/IllegalStateException", .initialized "java/lang/IllegalStateException", .fieldLink RX3 10 "CraneYard" "stacks" "LCraneYard$Stacks;", .methodLink RX3 135 yX1_stackHolding, .instanceMethod yX1_stackHolding, .selects RX1 yX1_stackHolding yX1_stackHolding, .initialized RX1, .code yX1_stackHolding cX1_stackHolding 4 (some .int), .fieldLink RX1 9 "CraneYard$Stacks" "heights" "[I", .fieldLink RX1 15 "CraneYard$Stacks" "cells" "[I"] ++ wsX30 ++ wsX10 ++ (vx_atS RX3 78 "java/lang/IllegalStateException" ["java/lang/RuntimeException", "java/lang/Exception"]).filter goodWord)
def wsX3_dig_r1 : List Cond := [Cond.classLink RX3 74 "java/lang/IllegalStateException", Cond.initialized "java/lang/IllegalStateException", Cond.fieldLink RX3 16 "CraneYard" "trial" "LCraneYard$Stacks;", Cond.fieldLink RX3 10 "CraneYard" "stacks" "LCraneYard$Stacks;", Cond.fieldLink RX3 44 "CraneYard" "craneCrate" "I", Cond.fieldLink RX3 47 "CraneYard" "liftCount" "I", Cond.methodLink RX3 110 yX3_requireCrate, Cond.instanceMethod yX3_requireCrate, Cond.selects RX3 yX3_requireCrate yX3_requireCrate, Cond.initialized RX3, Cond.code yX3_requireCrate cX3_requireCrate 2 none, Cond.classLink RX3 166 "java/lang/IndexOutOfBoundsException", Cond.initialized "java/lang/IndexOutOfBoundsException", Cond.fieldLink RX3 40 "CraneYard" "crateCount" "I", Cond.methodLink RX3 92 yX3_requireEmptyCrane, Cond.instanceMethod yX3_requireEmptyCrane, Cond.selects RX3 yX3_requireEmptyCrane yX3_requireEmptyCrane, Cond.code yX3_requireEmptyCrane cX3_requireEmptyCrane 1 none, Cond.methodLink RX3 113 yX3_requireInStack, Cond.instanceMethod yX3_requireInStack, Cond.selects RX3 yX3_requireInStack yX3_requireInStack, Cond.code yX3_requireInStack cX3_requireInStack 2 none, Cond.methodLink RX3 135 yX1_stackHolding, Cond.instanceMethod yX1_stackHolding]
def wsX3_dig_r2 : List Cond := [Cond.selects RX1 yX1_stackHolding yX1_stackHolding, Cond.initialized RX1, Cond.code yX1_stackHolding cX1_stackHolding 4 (some .int), Cond.fieldLink RX1 9 "CraneYard$Stacks" "heights" "[I", Cond.fieldLink RX1 15 "CraneYard$Stacks" "cells" "[I", Cond.methodLink RX3 116 yX1_copyFrom, Cond.instanceMethod yX1_copyFrom, Cond.selects RX1 yX1_copyFrom yX1_copyFrom, Cond.code yX1_copyFrom cX1_copyFrom 2 none, Cond.methodLink RX1 21 arraycopyName, Cond.native arraycopyName, Cond.static arraycopyName, Cond.initialized "java/lang/System", Cond.fieldLink RX1 18 "CraneYard$Stacks" "weights" "[I", Cond.methodLink RX3 120 yX3_mostPlaces, Cond.instanceMethod yX3_mostPlaces, Cond.selects RX3 yX3_mostPlaces yX3_mostPlaces, Cond.code yX3_mostPlaces cX3_mostPlaces 1 (some .int), Cond.fieldLink RX3 53 "CraneYard" "stormy" "Z", Cond.methodLink RX3 124 yX1_digOut, Cond.instanceMethod yX1_digOut, Cond.selects RX1 yX1_digOut yX1_digOut, Cond.code yX1_digOut cX1_digOut 7 (some .int), Cond.methodLink RX1 37 yX1_stackHolding]
def wsX3_dig_r3 : List Cond := [Cond.methodLink RX1 40 yX1_takeTop, Cond.instanceMethod yX1_takeTop, Cond.selects RX1 yX1_takeTop yX1_takeTop, Cond.code yX1_takeTop cX1_takeTop 3 (some .int), Cond.methodLink RX1 31 yX1_topOf, Cond.instanceMethod yX1_topOf, Cond.selects RX1 yX1_topOf yX1_topOf, Cond.code yX1_topOf cX1_topOf 3 (some .int), Cond.methodLink RX1 27 yX1_heightOf, Cond.instanceMethod yX1_heightOf, Cond.selects RX1 yX1_heightOf yX1_heightOf, Cond.code yX1_heightOf cX1_heightOf 2 (some .int), Cond.methodLink RX1 34 yX1_weightOf, Cond.instanceMethod yX1_weightOf, Cond.selects RX1 yX1_weightOf yX1_weightOf, Cond.code yX1_weightOf cX1_weightOf 2 (some .int), Cond.methodLink RX1 43 yX1_targetFor, Cond.instanceMethod yX1_targetFor, Cond.selects RX1 yX1_targetFor yX1_targetFor, Cond.code yX1_targetFor cX1_targetFor 6 (some .int), Cond.methodLink RX1 51 yX1_canTake, Cond.instanceMethod yX1_canTake, Cond.selects RX1 yX1_canTake yX1_canTake, Cond.code yX1_canTake cX1_canTake 5 (some .boolean)]
def wsX3_dig_r4 : List Cond := [Cond.methodLink RX1 47 yX1_put, Cond.instanceMethod yX1_put, Cond.selects RX1 yX1_put yX1_put, Cond.code yX1_put cX1_put 4 none, Cond.methodLink RX3 89 yX3_payWords, Cond.instanceMethod yX3_payWords, Cond.selects RX3 yX3_payWords yX3_payWords, Cond.code yX3_payWords cX3_payWords 4 none, Cond.fieldLink RX3 37 "CraneYard" "lids" "[I", Cond.fieldLink RX3 33 "CraneYard" "letters" "[I", Cond.fieldLink RX3 22 "CraneYard" "words" "LCraneYard$Words;", Cond.methodLink RX3 262 yX1_topOf, Cond.methodLink RX3 265 yX2_payShown, Cond.instanceMethod yX2_payShown, Cond.selects RX2 yX2_payShown yX2_payShown, Cond.initialized RX2, Cond.code yX2_payShown cX2_payShown 4 none, Cond.fieldLink RX2 22 "CraneYard$Words" "count" "I", Cond.fieldLink RX2 18 "CraneYard$Words" "paid" "[Z", Cond.fieldLink RX2 26 "CraneYard$Words" "sum" "I", Cond.fieldLink RX2 15 "CraneYard$Words" "lengths" "[I", Cond.methodLink RX2 29 yX2_isShown, Cond.instanceMethod yX2_isShown, Cond.selects RX2 yX2_isShown yX2_isShown]
def wsX3_dig_r5 : List Cond := [Cond.code yX2_isShown cX2_isShown 6 (some .boolean), Cond.methodLink RX2 33 yX2_isShownFrom, Cond.instanceMethod yX2_isShownFrom, Cond.selects RX2 yX2_isShownFrom yX2_isShownFrom, Cond.code yX2_isShownFrom cX2_isShownFrom 5 (some .boolean), Cond.fieldLink RX2 9 "CraneYard$Words" "letters" "[I"]
def wsX3_dig : List Cond := .code yX3_dig cX3_dig 3 (some .int) :: ((wsX3_dig_r1 ++ (wsX3_dig_r2 ++ (wsX3_dig_r3 ++ (wsX3_dig_r4 ++ wsX3_dig_r5)))) ++ wsX30 ++ wsX10 ++ wsX20 ++ (vx_atS RX3 78 "java/lang/IllegalStateException" ["java/lang/RuntimeException", "java/lang/Exception"]).filter goodWord ++ (vx_atS RX3 170 "java/lang/IndexOutOfBoundsException" ["java/lang/RuntimeException", "java/lang/Exception"]).filter goodWord)
def wsX3_crane : List Cond := .code yX3_crane cX3_crane 1 (some .int) :: ([.fieldLink RX3 44 "CraneYard" "craneCrate" "I"] ++ wsX30)
def wsX3_height : List Cond := .code yX3_height cX3_height 2 (some .int) :: ([.fieldLink RX3 10 "CraneYard" "stacks" "LCraneYard$Stacks;", .methodLink RX3 71 yX3_requireStack, .static yX3_requireStack, .initialized RX3, .code yX3_requireStack cX3_requireStack 1 none, .classLink RX3 60 "java/lang/IllegalArgumentException", .initialized "java/lang/IllegalArgumentException", .methodLink RX3 95 yX1_heightOf, .instanceMethod yX1_heightOf, .selects RX1 yX1_heightOf yX1_heightOf, .initialized RX1, .code yX1_heightOf cX1_heightOf 2 (some .int), .fieldLink RX1 9 "CraneYard$Stacks" "heights" "[I"] ++ wsX30 ++ wsX10 ++ (vx_atS RX3 64 "java/lang/IllegalArgumentException" ["java/lang/RuntimeException", "java/lang/Exception"]).filter goodWord)
def wsX3_at : List Cond := .code yX3_at cX3_at 3 (some .int) :: ([.classLink RX3 60 "java/lang/IllegalArgumentException", .initialized "java/lang/IllegalArgumentException", .fieldLink RX3 10 "CraneYard" "stacks" "LCraneYard$Stacks;", .methodLink RX3 71 yX3_requireStack, .static yX3_requireStack, .initialized RX3, .code yX3_requireStack cX3_requireStack 1 none, .methodLink RX3 132 yX1_crateAt, .instanceMethod yX1_crateAt, .selects RX1 yX1_crateAt yX1_crateAt, .initialized RX1, .code yX1_crateAt cX1_crateAt 3 (some .int), .fieldLink RX1 15 "CraneYard$Stacks" "cells" "[I", .methodLink RX1 27 yX1_heightOf, .instanceMethod yX1_heightOf, .selects RX1 yX1_heightOf yX1_heightOf, .code yX1_heightOf cX1_heightOf 2 (some .int), .fieldLink RX1 9 "CraneYard$Stacks" "heights" "[I"] ++ wsX30 ++ wsX10 ++ (vx_atS RX3 64 "java/lang/IllegalArgumentException" ["java/lang/RuntimeException", "java/lang/Exception"]).filter goodWord)
def wsX3_stackOf : List Cond := .code yX3_stackOf cX3_stackOf 2 (some .int) :: ([.fieldLink RX3 10 "CraneYard" "stacks" "LCraneYard$Stacks;", .methodLink RX3 110 yX3_requireCrate, .instanceMethod yX3_requireCrate, .selects RX3 yX3_requireCrate yX3_requireCrate, .initialized RX3, .code yX3_requireCrate cX3_requireCrate 2 none, .classLink RX3 166 "java/lang/IndexOutOfBoundsException", .initialized "java/lang/IndexOutOfBoundsException", .fieldLink RX3 40 "CraneYard" "crateCount" "I", .methodLink RX3 135 yX1_stackHolding, .instanceMethod yX1_stackHolding, .selects RX1 yX1_stackHolding yX1_stackHolding, .initialized RX1, .code yX1_stackHolding cX1_stackHolding 4 (some .int), .fieldLink RX1 9 "CraneYard$Stacks" "heights" "[I", .fieldLink RX1 15 "CraneYard$Stacks" "cells" "[I"] ++ wsX30 ++ wsX10 ++ (vx_atS RX3 170 "java/lang/IndexOutOfBoundsException" ["java/lang/RuntimeException", "java/lang/Exception"]).filter goodWord)
def wsX3_lifts : List Cond := .code yX3_lifts cX3_lifts 1 (some .int) :: ([.fieldLink RX3 47 "CraneYard" "liftCount" "I"] ++ wsX30)
def wsJ6_bitCount_0f7a4 : List Cond := .code yJ6_bitCount_0f7a4 cJ6_bitCount_0f7a4 1 (some .int) :: ([.constant RJ6 265 (1431655765), .constant RJ6 266 (858993459), .constant RJ6 267 (252645135)])
def wsX3_contains : List Cond := .code yX3_contains cX3_contains 2 (some .boolean) :: ([])
def wsX3_areInStacks : List Cond := .code yX3_areInStacks cX3_areInStacks 4 (some .boolean) :: ([.fieldLink RX3 10 "CraneYard" "stacks" "LCraneYard$Stacks;", .methodLink RX3 144 yJ6_bitCount_0f7a4, .static yJ6_bitCount_0f7a4, .initialized RJ6, .code yJ6_bitCount_0f7a4 cJ6_bitCount_0f7a4 1 (some .int), .constant RJ6 265 (1431655765), .constant RJ6 266 (858993459), .constant RJ6 267 (252645135), .methodLink RX3 274 yX3_contains, .static yX3_contains, .initialized RX3, .code yX3_contains cX3_contains 2 (some .boolean), .methodLink RX3 135 yX1_stackHolding, .instanceMethod yX1_stackHolding, .selects RX1 yX1_stackHolding yX1_stackHolding, .initialized RX1, .code yX1_stackHolding cX1_stackHolding 4 (some .int), .fieldLink RX1 9 "CraneYard$Stacks" "heights" "[I", .fieldLink RX1 15 "CraneYard$Stacks" "cells" "[I"] ++ wsX30 ++ wsX10)
def wsX3_ordersOf : List Cond := .code yX3_ordersOf cX3_ordersOf 3 (some .int) :: ([])
def wsX3_memberOf : List Cond := .code yX3_memberOf cX3_memberOf 4 (some .int) :: ([.methodLink RX3 274 yX3_contains, .static yX3_contains, .initialized RX3, .code yX3_contains cX3_contains 2 (some .boolean)])
def wsX3_liftsInOrder_r1 : List Cond := [Cond.fieldLink RX3 16 "CraneYard" "trial" "LCraneYard$Stacks;", Cond.fieldLink RX3 10 "CraneYard" "stacks" "LCraneYard$Stacks;", Cond.methodLink RX3 116 yX1_copyFrom, Cond.instanceMethod yX1_copyFrom, Cond.selects RX1 yX1_copyFrom yX1_copyFrom, Cond.initialized RX1, Cond.code yX1_copyFrom cX1_copyFrom 2 none, Cond.fieldLink RX1 9 "CraneYard$Stacks" "heights" "[I", Cond.methodLink RX1 21 arraycopyName, Cond.native arraycopyName, Cond.static arraycopyName, Cond.initialized "java/lang/System", Cond.fieldLink RX1 15 "CraneYard$Stacks" "cells" "[I", Cond.fieldLink RX1 18 "CraneYard$Stacks" "weights" "[I", Cond.methodLink RX3 144 yJ6_bitCount_0f7a4, Cond.static yJ6_bitCount_0f7a4, Cond.initialized RJ6, Cond.code yJ6_bitCount_0f7a4 cJ6_bitCount_0f7a4 1 (some .int), Cond.constant RJ6 265 (1431655765), Cond.constant RJ6 266 (858993459), Cond.constant RJ6 267 (252645135), Cond.methodLink RX3 278 yX3_memberOf, Cond.static yX3_memberOf, Cond.initialized RX3]
def wsX3_liftsInOrder_r2 : List Cond := [Cond.code yX3_memberOf cX3_memberOf 4 (some .int), Cond.methodLink RX3 274 yX3_contains, Cond.static yX3_contains, Cond.code yX3_contains cX3_contains 2 (some .boolean), Cond.methodLink RX3 120 yX3_mostPlaces, Cond.instanceMethod yX3_mostPlaces, Cond.selects RX3 yX3_mostPlaces yX3_mostPlaces, Cond.code yX3_mostPlaces cX3_mostPlaces 1 (some .int), Cond.fieldLink RX3 53 "CraneYard" "stormy" "Z", Cond.methodLink RX3 124 yX1_digOut, Cond.instanceMethod yX1_digOut, Cond.selects RX1 yX1_digOut yX1_digOut, Cond.code yX1_digOut cX1_digOut 7 (some .int), Cond.methodLink RX1 37 yX1_stackHolding, Cond.instanceMethod yX1_stackHolding, Cond.selects RX1 yX1_stackHolding yX1_stackHolding, Cond.code yX1_stackHolding cX1_stackHolding 4 (some .int), Cond.methodLink RX1 40 yX1_takeTop, Cond.instanceMethod yX1_takeTop, Cond.selects RX1 yX1_takeTop yX1_takeTop, Cond.code yX1_takeTop cX1_takeTop 3 (some .int), Cond.methodLink RX1 31 yX1_topOf, Cond.instanceMethod yX1_topOf, Cond.selects RX1 yX1_topOf yX1_topOf]
def wsX3_liftsInOrder_r3 : List Cond := [Cond.code yX1_topOf cX1_topOf 3 (some .int), Cond.methodLink RX1 27 yX1_heightOf, Cond.instanceMethod yX1_heightOf, Cond.selects RX1 yX1_heightOf yX1_heightOf, Cond.code yX1_heightOf cX1_heightOf 2 (some .int), Cond.methodLink RX1 34 yX1_weightOf, Cond.instanceMethod yX1_weightOf, Cond.selects RX1 yX1_weightOf yX1_weightOf, Cond.code yX1_weightOf cX1_weightOf 2 (some .int), Cond.methodLink RX1 43 yX1_targetFor, Cond.instanceMethod yX1_targetFor, Cond.selects RX1 yX1_targetFor yX1_targetFor, Cond.code yX1_targetFor cX1_targetFor 6 (some .int), Cond.methodLink RX1 51 yX1_canTake, Cond.instanceMethod yX1_canTake, Cond.selects RX1 yX1_canTake yX1_canTake, Cond.code yX1_canTake cX1_canTake 5 (some .boolean), Cond.methodLink RX1 47 yX1_put, Cond.instanceMethod yX1_put, Cond.selects RX1 yX1_put yX1_put, Cond.code yX1_put cX1_put 4 none]
def wsX3_liftsInOrder : List Cond := .code yX3_liftsInOrder cX3_liftsInOrder 9 (some .int) :: ((wsX3_liftsInOrder_r1 ++ (wsX3_liftsInOrder_r2 ++ wsX3_liftsInOrder_r3)) ++ wsX30 ++ wsX10)
def wsX3_fewestLifts_r1 : List Cond := [Cond.classLink RX3 60 "java/lang/IllegalArgumentException", Cond.initialized "java/lang/IllegalArgumentException", Cond.methodLink RX3 138 yX3_areInStacks, Cond.instanceMethod yX3_areInStacks, Cond.selects RX3 yX3_areInStacks yX3_areInStacks, Cond.initialized RX3, Cond.code yX3_areInStacks cX3_areInStacks 4 (some .boolean), Cond.fieldLink RX3 10 "CraneYard" "stacks" "LCraneYard$Stacks;", Cond.methodLink RX3 144 yJ6_bitCount_0f7a4, Cond.static yJ6_bitCount_0f7a4, Cond.initialized RJ6, Cond.code yJ6_bitCount_0f7a4 cJ6_bitCount_0f7a4 1 (some .int), Cond.constant RJ6 265 (1431655765), Cond.constant RJ6 266 (858993459), Cond.constant RJ6 267 (252645135), Cond.methodLink RX3 274 yX3_contains, Cond.static yX3_contains, Cond.code yX3_contains cX3_contains 2 (some .boolean), Cond.methodLink RX3 135 yX1_stackHolding, Cond.instanceMethod yX1_stackHolding, Cond.selects RX1 yX1_stackHolding yX1_stackHolding, Cond.initialized RX1, Cond.code yX1_stackHolding cX1_stackHolding 4 (some .int), Cond.fieldLink RX1 9 "CraneYard$Stacks" "heights" "[I"]
def wsX3_fewestLifts_r2 : List Cond := [Cond.fieldLink RX1 15 "CraneYard$Stacks" "cells" "[I", Cond.methodLink RX3 92 yX3_requireEmptyCrane, Cond.instanceMethod yX3_requireEmptyCrane, Cond.selects RX3 yX3_requireEmptyCrane yX3_requireEmptyCrane, Cond.code yX3_requireEmptyCrane cX3_requireEmptyCrane 1 none, Cond.classLink RX3 74 "java/lang/IllegalStateException", Cond.initialized "java/lang/IllegalStateException", Cond.fieldLink RX3 44 "CraneYard" "craneCrate" "I", Cond.methodLink RX3 149 yX3_ordersOf, Cond.static yX3_ordersOf, Cond.code yX3_ordersOf cX3_ordersOf 3 (some .int), Cond.methodLink RX3 152 yX3_liftsInOrder, Cond.instanceMethod yX3_liftsInOrder, Cond.selects RX3 yX3_liftsInOrder yX3_liftsInOrder, Cond.code yX3_liftsInOrder cX3_liftsInOrder 9 (some .int), Cond.fieldLink RX3 16 "CraneYard" "trial" "LCraneYard$Stacks;", Cond.methodLink RX3 116 yX1_copyFrom, Cond.instanceMethod yX1_copyFrom, Cond.selects RX1 yX1_copyFrom yX1_copyFrom, Cond.code yX1_copyFrom cX1_copyFrom 2 none, Cond.methodLink RX1 21 arraycopyName, Cond.native arraycopyName, Cond.static arraycopyName, Cond.initialized "java/lang/System"]
def wsX3_fewestLifts_r3 : List Cond := [Cond.fieldLink RX1 18 "CraneYard$Stacks" "weights" "[I", Cond.methodLink RX3 278 yX3_memberOf, Cond.static yX3_memberOf, Cond.code yX3_memberOf cX3_memberOf 4 (some .int), Cond.methodLink RX3 120 yX3_mostPlaces, Cond.instanceMethod yX3_mostPlaces, Cond.selects RX3 yX3_mostPlaces yX3_mostPlaces, Cond.code yX3_mostPlaces cX3_mostPlaces 1 (some .int), Cond.fieldLink RX3 53 "CraneYard" "stormy" "Z", Cond.methodLink RX3 124 yX1_digOut, Cond.instanceMethod yX1_digOut, Cond.selects RX1 yX1_digOut yX1_digOut, Cond.code yX1_digOut cX1_digOut 7 (some .int), Cond.methodLink RX1 37 yX1_stackHolding, Cond.methodLink RX1 40 yX1_takeTop, Cond.instanceMethod yX1_takeTop, Cond.selects RX1 yX1_takeTop yX1_takeTop, Cond.code yX1_takeTop cX1_takeTop 3 (some .int), Cond.methodLink RX1 31 yX1_topOf, Cond.instanceMethod yX1_topOf, Cond.selects RX1 yX1_topOf yX1_topOf, Cond.code yX1_topOf cX1_topOf 3 (some .int), Cond.methodLink RX1 27 yX1_heightOf, Cond.instanceMethod yX1_heightOf]
def wsX3_fewestLifts_r4 : List Cond := [Cond.selects RX1 yX1_heightOf yX1_heightOf, Cond.code yX1_heightOf cX1_heightOf 2 (some .int), Cond.methodLink RX1 34 yX1_weightOf, Cond.instanceMethod yX1_weightOf, Cond.selects RX1 yX1_weightOf yX1_weightOf, Cond.code yX1_weightOf cX1_weightOf 2 (some .int), Cond.methodLink RX1 43 yX1_targetFor, Cond.instanceMethod yX1_targetFor, Cond.selects RX1 yX1_targetFor yX1_targetFor, Cond.code yX1_targetFor cX1_targetFor 6 (some .int), Cond.methodLink RX1 51 yX1_canTake, Cond.instanceMethod yX1_canTake, Cond.selects RX1 yX1_canTake yX1_canTake, Cond.code yX1_canTake cX1_canTake 5 (some .boolean), Cond.methodLink RX1 47 yX1_put, Cond.instanceMethod yX1_put, Cond.selects RX1 yX1_put yX1_put, Cond.code yX1_put cX1_put 4 none]
def wsX3_fewestLifts : List Cond := .code yX3_fewestLifts cX3_fewestLifts 6 (some .int) :: ((wsX3_fewestLifts_r1 ++ (wsX3_fewestLifts_r2 ++ (wsX3_fewestLifts_r3 ++ wsX3_fewestLifts_r4))) ++ wsX30 ++ wsX10 ++ (vx_atS RX3 64 "java/lang/IllegalArgumentException" ["java/lang/RuntimeException", "java/lang/Exception"]).filter goodWord ++ (vx_atS RX3 78 "java/lang/IllegalStateException" ["java/lang/RuntimeException", "java/lang/Exception"]).filter goodWord)
def wsX3_tell_r1 : List Cond := [Cond.classLink RX3 60 "java/lang/IllegalArgumentException", Cond.initialized "java/lang/IllegalArgumentException", Cond.classLink RX3 74 "java/lang/IllegalStateException", Cond.initialized "java/lang/IllegalStateException", Cond.fieldLink RX3 22 "CraneYard" "words" "LCraneYard$Words;", Cond.methodLink RX3 67 yX3_requireLetter, Cond.static yX3_requireLetter, Cond.initialized RX3, Cond.code yX3_requireLetter cX3_requireLetter 1 none, Cond.methodLink RX3 157 yX2_number, Cond.instanceMethod yX2_number, Cond.selects RX2 yX2_number yX2_number, Cond.initialized RX2, Cond.code yX2_number cX2_number 1 (some .int), Cond.fieldLink RX2 22 "CraneYard$Words" "count" "I", Cond.methodLink RX3 162 yX2_add, Cond.instanceMethod yX2_add, Cond.selects RX2 yX2_add yX2_add, Cond.code yX2_add cX2_add 7 (some .int), Cond.fieldLink RX2 9 "CraneYard$Words" "letters" "[I", Cond.fieldLink RX2 15 "CraneYard$Words" "lengths" "[I", Cond.methodLink RX3 89 yX3_payWords, Cond.instanceMethod yX3_payWords, Cond.selects RX3 yX3_payWords yX3_payWords]
def wsX3_tell_r2 : List Cond := [Cond.code yX3_payWords cX3_payWords 4 none, Cond.fieldLink RX3 10 "CraneYard" "stacks" "LCraneYard$Stacks;", Cond.fieldLink RX3 37 "CraneYard" "lids" "[I", Cond.fieldLink RX3 33 "CraneYard" "letters" "[I", Cond.methodLink RX3 262 yX1_topOf, Cond.instanceMethod yX1_topOf, Cond.selects RX1 yX1_topOf yX1_topOf, Cond.initialized RX1, Cond.code yX1_topOf cX1_topOf 3 (some .int), Cond.fieldLink RX1 15 "CraneYard$Stacks" "cells" "[I", Cond.methodLink RX1 27 yX1_heightOf, Cond.instanceMethod yX1_heightOf, Cond.selects RX1 yX1_heightOf yX1_heightOf, Cond.code yX1_heightOf cX1_heightOf 2 (some .int), Cond.fieldLink RX1 9 "CraneYard$Stacks" "heights" "[I", Cond.methodLink RX3 265 yX2_payShown, Cond.instanceMethod yX2_payShown, Cond.selects RX2 yX2_payShown yX2_payShown, Cond.code yX2_payShown cX2_payShown 4 none, Cond.fieldLink RX2 18 "CraneYard$Words" "paid" "[Z", Cond.fieldLink RX2 26 "CraneYard$Words" "sum" "I", Cond.methodLink RX2 29 yX2_isShown, Cond.instanceMethod yX2_isShown, Cond.selects RX2 yX2_isShown yX2_isShown]
def wsX3_tell_r3 : List Cond := [Cond.code yX2_isShown cX2_isShown 6 (some .boolean), Cond.methodLink RX2 33 yX2_isShownFrom, Cond.instanceMethod yX2_isShownFrom, Cond.selects RX2 yX2_isShownFrom yX2_isShownFrom, Cond.code yX2_isShownFrom cX2_isShownFrom 5 (some .boolean)]
def wsX3_tell : List Cond := .code yX3_tell cX3_tell 6 (some .int) :: ((wsX3_tell_r1 ++ (wsX3_tell_r2 ++ wsX3_tell_r3)) ++ wsX30 ++ wsX20 ++ wsX10 ++ (vx_atS RX3 64 "java/lang/IllegalArgumentException" ["java/lang/RuntimeException", "java/lang/Exception"]).filter goodWord ++ (vx_atS RX3 78 "java/lang/IllegalStateException" ["java/lang/RuntimeException", "java/lang/Exception"]).filter goodWord)
def wsX3_hasPaid : List Cond := .code yX3_hasPaid cX3_hasPaid 2 (some .boolean) :: ([.classLink RX3 166 "java/lang/IndexOutOfBoundsException", .initialized "java/lang/IndexOutOfBoundsException", .fieldLink RX3 22 "CraneYard" "words" "LCraneYard$Words;", .methodLink RX3 157 yX2_number, .instanceMethod yX2_number, .selects RX2 yX2_number yX2_number, .initialized RX2, .code yX2_number cX2_number 1 (some .int), .fieldLink RX2 22 "CraneYard$Words" "count" "I", .methodLink RX3 171 yX2_isPaid, .instanceMethod yX2_isPaid, .selects RX2 yX2_isPaid yX2_isPaid, .code yX2_isPaid cX2_isPaid 2 (some .boolean), .fieldLink RX2 18 "CraneYard$Words" "paid" "[Z"] ++ wsX30 ++ wsX20 ++ (vx_atS RX3 170 "java/lang/IndexOutOfBoundsException" ["java/lang/RuntimeException", "java/lang/Exception"]).filter goodWord)
def wsX3_bonus : List Cond := .code yX3_bonus cX3_bonus 1 (some .int) :: ([.fieldLink RX3 22 "CraneYard" "words" "LCraneYard$Words;", .methodLink RX3 174 yX2_paidInAll, .instanceMethod yX2_paidInAll, .selects RX2 yX2_paidInAll yX2_paidInAll, .initialized RX2, .code yX2_paidInAll cX2_paidInAll 1 (some .int), .fieldLink RX2 26 "CraneYard$Words" "sum" "I"] ++ wsX30 ++ wsX20)
def wsX3_offer_r1 : List Cond := [Cond.classLink RX3 60 "java/lang/IllegalArgumentException", Cond.initialized "java/lang/IllegalArgumentException", Cond.classLink RX3 74 "java/lang/IllegalStateException", Cond.initialized "java/lang/IllegalStateException", Cond.fieldLink RX3 50 "CraneYard" "day" "I", Cond.fieldLink RX3 29 "CraneYard" "hauls" "LCraneYard$Hauls;", Cond.methodLink RX3 110 yX3_requireCrate, Cond.instanceMethod yX3_requireCrate, Cond.selects RX3 yX3_requireCrate yX3_requireCrate, Cond.initialized RX3, Cond.code yX3_requireCrate cX3_requireCrate 2 none, Cond.classLink RX3 166 "java/lang/IndexOutOfBoundsException", Cond.initialized "java/lang/IndexOutOfBoundsException", Cond.fieldLink RX3 40 "CraneYard" "crateCount" "I", Cond.methodLink RX3 113 yX3_requireInStack, Cond.instanceMethod yX3_requireInStack, Cond.selects RX3 yX3_requireInStack yX3_requireInStack, Cond.code yX3_requireInStack cX3_requireInStack 2 none, Cond.fieldLink RX3 10 "CraneYard" "stacks" "LCraneYard$Stacks;", Cond.methodLink RX3 135 yX1_stackHolding, Cond.instanceMethod yX1_stackHolding, Cond.selects RX1 yX1_stackHolding yX1_stackHolding, Cond.initialized RX1, Cond.code yX1_stackHolding cX1_stackHolding 4 (some .int)]
def wsX3_offer_r2 : List Cond := [Cond.fieldLink RX1 9 "CraneYard$Stacks" "heights" "[I", Cond.fieldLink RX1 15 "CraneYard$Stacks" "cells" "[I", Cond.methodLink RX3 179 yX0_openHaulOf, Cond.instanceMethod yX0_openHaulOf, Cond.selects RX0 yX0_openHaulOf yX0_openHaulOf, Cond.initialized RX0, Cond.code yX0_openHaulOf cX0_openHaulOf 3 (some .int), Cond.fieldLink RX0 27 "CraneYard$Hauls" "count" "I", Cond.fieldLink RX0 9 "CraneYard$Hauls" "crates" "[I", Cond.methodLink RX0 41 yX0_isOpen, Cond.instanceMethod yX0_isOpen, Cond.selects RX0 yX0_isOpen yX0_isOpen, Cond.code yX0_isOpen cX0_isOpen 3 (some .boolean), Cond.methodLink RX0 37 yX0_stateOf, Cond.instanceMethod yX0_stateOf, Cond.selects RX0 yX0_stateOf yX0_stateOf, Cond.code yX0_stateOf cX0_stateOf 2 (some .int), Cond.fieldLink RX0 18 "CraneYard$Hauls" "states" "[I", Cond.methodLink RX3 184 yX0_number, Cond.instanceMethod yX0_number, Cond.selects RX0 yX0_number yX0_number, Cond.code yX0_number cX0_number 1 (some .int), Cond.methodLink RX3 187 yX0_add, Cond.instanceMethod yX0_add]
def wsX3_offer_r3 : List Cond := [Cond.selects RX0 yX0_add yX0_add, Cond.code yX0_add cX0_add 4 (some .int), Cond.fieldLink RX0 15 "CraneYard$Hauls" "lastDays" "[I"]
def wsX3_offer : List Cond := .code yX3_offer cX3_offer 3 (some .int) :: ((wsX3_offer_r1 ++ (wsX3_offer_r2 ++ wsX3_offer_r3)) ++ wsX30 ++ wsX10 ++ wsX00 ++ (vx_atS RX3 64 "java/lang/IllegalArgumentException" ["java/lang/RuntimeException", "java/lang/Exception"]).filter goodWord ++ (vx_atS RX3 78 "java/lang/IllegalStateException" ["java/lang/RuntimeException", "java/lang/Exception"]).filter goodWord ++ (vx_atS RX3 170 "java/lang/IndexOutOfBoundsException" ["java/lang/RuntimeException", "java/lang/Exception"]).filter goodWord)
def wsX3_requireHaul : List Cond := .code yX3_requireHaul cX3_requireHaul 2 none :: ([.classLink RX3 166 "java/lang/IndexOutOfBoundsException", .initialized "java/lang/IndexOutOfBoundsException", .fieldLink RX3 29 "CraneYard" "hauls" "LCraneYard$Hauls;", .methodLink RX3 184 yX0_number, .instanceMethod yX0_number, .selects RX0 yX0_number yX0_number, .initialized RX0, .code yX0_number cX0_number 1 (some .int), .fieldLink RX0 27 "CraneYard$Hauls" "count" "I"] ++ wsX30 ++ wsX00 ++ (vx_atS RX3 170 "java/lang/IndexOutOfBoundsException" ["java/lang/RuntimeException", "java/lang/Exception"]).filter goodWord)
def wsX3_requireOffered : List Cond := .code yX3_requireOffered cX3_requireOffered 2 none :: ([.classLink RX3 74 "java/lang/IllegalStateException", .initialized "java/lang/IllegalStateException", .fieldLink RX3 29 "CraneYard" "hauls" "LCraneYard$Hauls;", .methodLink RX3 216 yX0_stateOf, .instanceMethod yX0_stateOf, .selects RX0 yX0_stateOf yX0_stateOf, .initialized RX0, .code yX0_stateOf cX0_stateOf 2 (some .int), .fieldLink RX0 27 "CraneYard$Hauls" "count" "I", .fieldLink RX0 18 "CraneYard$Hauls" "states" "[I"] ++ wsX30 ++ wsX00 ++ (vx_atS RX3 78 "java/lang/IllegalStateException" ["java/lang/RuntimeException", "java/lang/Exception"]).filter goodWord)
def wsX3_bid_r1 : List Cond := [Cond.classLink RX3 60 "java/lang/IllegalArgumentException", Cond.initialized "java/lang/IllegalArgumentException", Cond.classLink RX3 74 "java/lang/IllegalStateException", Cond.initialized "java/lang/IllegalStateException", Cond.fieldLink RX3 29 "CraneYard" "hauls" "LCraneYard$Hauls;", Cond.methodLink RX3 189 yX3_requireHaul, Cond.instanceMethod yX3_requireHaul, Cond.selects RX3 yX3_requireHaul yX3_requireHaul, Cond.initialized RX3, Cond.code yX3_requireHaul cX3_requireHaul 2 none, Cond.classLink RX3 166 "java/lang/IndexOutOfBoundsException", Cond.initialized "java/lang/IndexOutOfBoundsException", Cond.methodLink RX3 184 yX0_number, Cond.instanceMethod yX0_number, Cond.selects RX0 yX0_number yX0_number, Cond.initialized RX0, Cond.code yX0_number cX0_number 1 (some .int), Cond.fieldLink RX0 27 "CraneYard$Hauls" "count" "I", Cond.methodLink RX3 196 yX3_requireOffered, Cond.instanceMethod yX3_requireOffered, Cond.selects RX3 yX3_requireOffered yX3_requireOffered, Cond.code yX3_requireOffered cX3_requireOffered 2 none, Cond.methodLink RX3 216 yX0_stateOf, Cond.instanceMethod yX0_stateOf]
def wsX3_bid_r2 : List Cond := [Cond.selects RX0 yX0_stateOf yX0_stateOf, Cond.code yX0_stateOf cX0_stateOf 2 (some .int), Cond.fieldLink RX0 18 "CraneYard$Hauls" "states" "[I", Cond.methodLink RX3 199 yX0_priceAsked, Cond.instanceMethod yX0_priceAsked, Cond.selects RX0 yX0_priceAsked yX0_priceAsked, Cond.code yX0_priceAsked cX0_priceAsked 3 (some .int), Cond.fieldLink RX0 24 "CraneYard$Hauls" "bids" "[I", Cond.methodLink RX0 45 yX0_isPlaceForBid, Cond.instanceMethod yX0_isPlaceForBid, Cond.selects RX0 yX0_isPlaceForBid yX0_isPlaceForBid, Cond.code yX0_isPlaceForBid cX0_isPlaceForBid 3 (some .boolean), Cond.methodLink RX3 204 yX0_enterBid, Cond.instanceMethod yX0_enterBid, Cond.selects RX0 yX0_enterBid yX0_enterBid, Cond.code yX0_enterBid cX0_enterBid 4 none]
def wsX3_bid : List Cond := .code yX3_bid cX3_bid 4 none :: ((wsX3_bid_r1 ++ wsX3_bid_r2) ++ wsX30 ++ wsX00 ++ (vx_atS RX3 64 "java/lang/IllegalArgumentException" ["java/lang/RuntimeException", "java/lang/Exception"]).filter goodWord ++ (vx_atS RX3 78 "java/lang/IllegalStateException" ["java/lang/RuntimeException", "java/lang/Exception"]).filter goodWord ++ (vx_atS RX3 170 "java/lang/IndexOutOfBoundsException" ["java/lang/RuntimeException", "java/lang/Exception"]).filter goodWord)
def wsX3_give_r1 : List Cond := [Cond.classLink RX3 74 "java/lang/IllegalStateException", Cond.initialized "java/lang/IllegalStateException", Cond.fieldLink RX3 29 "CraneYard" "hauls" "LCraneYard$Hauls;", Cond.methodLink RX3 189 yX3_requireHaul, Cond.instanceMethod yX3_requireHaul, Cond.selects RX3 yX3_requireHaul yX3_requireHaul, Cond.initialized RX3, Cond.code yX3_requireHaul cX3_requireHaul 2 none, Cond.classLink RX3 166 "java/lang/IndexOutOfBoundsException", Cond.initialized "java/lang/IndexOutOfBoundsException", Cond.methodLink RX3 184 yX0_number, Cond.instanceMethod yX0_number, Cond.selects RX0 yX0_number yX0_number, Cond.initialized RX0, Cond.code yX0_number cX0_number 1 (some .int), Cond.fieldLink RX0 27 "CraneYard$Hauls" "count" "I", Cond.methodLink RX3 196 yX3_requireOffered, Cond.instanceMethod yX3_requireOffered, Cond.selects RX3 yX3_requireOffered yX3_requireOffered, Cond.code yX3_requireOffered cX3_requireOffered 2 none, Cond.methodLink RX3 216 yX0_stateOf, Cond.instanceMethod yX0_stateOf, Cond.selects RX0 yX0_stateOf yX0_stateOf, Cond.code yX0_stateOf cX0_stateOf 2 (some .int)]
def wsX3_give_r2 : List Cond := [Cond.fieldLink RX0 18 "CraneYard$Hauls" "states" "[I", Cond.methodLink RX3 208 yX0_cheapestHaulier, Cond.instanceMethod yX0_cheapestHaulier, Cond.selects RX0 yX0_cheapestHaulier yX0_cheapestHaulier, Cond.code yX0_cheapestHaulier cX0_cheapestHaulier 5 (some .int), Cond.methodLink RX0 49 yX0_priceAsked, Cond.instanceMethod yX0_priceAsked, Cond.selects RX0 yX0_priceAsked yX0_priceAsked, Cond.code yX0_priceAsked cX0_priceAsked 3 (some .int), Cond.fieldLink RX0 24 "CraneYard$Hauls" "bids" "[I", Cond.methodLink RX0 45 yX0_isPlaceForBid, Cond.instanceMethod yX0_isPlaceForBid, Cond.selects RX0 yX0_isPlaceForBid yX0_isPlaceForBid, Cond.code yX0_isPlaceForBid cX0_isPlaceForBid 3 (some .boolean), Cond.methodLink RX3 213 yX0_giveTo, Cond.instanceMethod yX0_giveTo, Cond.selects RX0 yX0_giveTo yX0_giveTo, Cond.code yX0_giveTo cX0_giveTo 3 none, Cond.fieldLink RX0 21 "CraneYard$Hauls" "prices" "[I"]
def wsX3_give : List Cond := .code yX3_give cX3_give 3 (some .int) :: ((wsX3_give_r1 ++ wsX3_give_r2) ++ wsX30 ++ wsX00 ++ (vx_atS RX3 78 "java/lang/IllegalStateException" ["java/lang/RuntimeException", "java/lang/Exception"]).filter goodWord ++ (vx_atS RX3 170 "java/lang/IndexOutOfBoundsException" ["java/lang/RuntimeException", "java/lang/Exception"]).filter goodWord)
def wsX3_load_r1 : List Cond := [Cond.classLink RX3 74 "java/lang/IllegalStateException", Cond.initialized "java/lang/IllegalStateException", Cond.fieldLink RX3 29 "CraneYard" "hauls" "LCraneYard$Hauls;", Cond.fieldLink RX3 44 "CraneYard" "craneCrate" "I", Cond.methodLink RX3 104 yX3_requireFullCrane, Cond.instanceMethod yX3_requireFullCrane, Cond.selects RX3 yX3_requireFullCrane yX3_requireFullCrane, Cond.initialized RX3, Cond.code yX3_requireFullCrane cX3_requireFullCrane 1 none, Cond.methodLink RX3 179 yX0_openHaulOf, Cond.instanceMethod yX0_openHaulOf, Cond.selects RX0 yX0_openHaulOf yX0_openHaulOf, Cond.initialized RX0, Cond.code yX0_openHaulOf cX0_openHaulOf 3 (some .int), Cond.fieldLink RX0 27 "CraneYard$Hauls" "count" "I", Cond.fieldLink RX0 9 "CraneYard$Hauls" "crates" "[I", Cond.methodLink RX0 41 yX0_isOpen, Cond.instanceMethod yX0_isOpen, Cond.selects RX0 yX0_isOpen yX0_isOpen, Cond.code yX0_isOpen cX0_isOpen 3 (some .boolean), Cond.methodLink RX0 37 yX0_stateOf, Cond.instanceMethod yX0_stateOf, Cond.selects RX0 yX0_stateOf yX0_stateOf, Cond.code yX0_stateOf cX0_stateOf 2 (some .int)]
def wsX3_load_r2 : List Cond := [Cond.fieldLink RX0 18 "CraneYard$Hauls" "states" "[I", Cond.methodLink RX3 216 yX0_stateOf, Cond.methodLink RX3 221 yX0_finish, Cond.instanceMethod yX0_finish, Cond.selects RX0 yX0_finish yX0_finish, Cond.code yX0_finish cX0_finish 2 (some .int), Cond.fieldLink RX0 31 "CraneYard$Hauls" "pricesPaid" "I", Cond.fieldLink RX0 21 "CraneYard$Hauls" "prices" "[I"]
def wsX3_load : List Cond := .code yX3_load cX3_load 2 (some .int) :: ((wsX3_load_r1 ++ wsX3_load_r2) ++ wsX30 ++ wsX00 ++ (vx_atS RX3 78 "java/lang/IllegalStateException" ["java/lang/RuntimeException", "java/lang/Exception"]).filter goodWord)
def wsX3_state : List Cond := .code yX3_state cX3_state 2 (some .int) :: ([.fieldLink RX3 29 "CraneYard" "hauls" "LCraneYard$Hauls;", .methodLink RX3 189 yX3_requireHaul, .instanceMethod yX3_requireHaul, .selects RX3 yX3_requireHaul yX3_requireHaul, .initialized RX3, .code yX3_requireHaul cX3_requireHaul 2 none, .classLink RX3 166 "java/lang/IndexOutOfBoundsException", .initialized "java/lang/IndexOutOfBoundsException", .methodLink RX3 184 yX0_number, .instanceMethod yX0_number, .selects RX0 yX0_number yX0_number, .initialized RX0, .code yX0_number cX0_number 1 (some .int), .fieldLink RX0 27 "CraneYard$Hauls" "count" "I", .methodLink RX3 216 yX0_stateOf, .instanceMethod yX0_stateOf, .selects RX0 yX0_stateOf yX0_stateOf, .code yX0_stateOf cX0_stateOf 2 (some .int), .fieldLink RX0 18 "CraneYard$Hauls" "states" "[I"] ++ wsX30 ++ wsX00 ++ (vx_atS RX3 170 "java/lang/IndexOutOfBoundsException" ["java/lang/RuntimeException", "java/lang/Exception"]).filter goodWord)
def wsX3_storm : List Cond := .code yX3_storm cX3_storm 1 (some .int) :: ([.fieldLink RX3 53 "CraneYard" "stormy" "Z", .fieldLink RX3 10 "CraneYard" "stacks" "LCraneYard$Stacks;", .methodLink RX3 120 yX3_mostPlaces, .instanceMethod yX3_mostPlaces, .selects RX3 yX3_mostPlaces yX3_mostPlaces, .initialized RX3, .code yX3_mostPlaces cX3_mostPlaces 1 (some .int), .methodLink RX3 224 yX1_cratesAbove, .instanceMethod yX1_cratesAbove, .selects RX1 yX1_cratesAbove yX1_cratesAbove, .initialized RX1, .code yX1_cratesAbove cX1_cratesAbove 4 (some .int), .fieldLink RX1 9 "CraneYard$Stacks" "heights" "[I", .methodLink RX1 55 Lib.Math.max.name, .static Lib.Math.max.name, .initialized "java/lang/Math", .code Lib.Math.max.name Lib.Math.max.code 2 (some .int)] ++ wsX30 ++ wsX10)
def wsX3_endDay_r1 : List Cond := [Cond.fieldLink RX3 57 "CraneYard" "fees" "I", Cond.fieldLink RX3 10 "CraneYard" "stacks" "LCraneYard$Stacks;", Cond.fieldLink RX3 29 "CraneYard" "hauls" "LCraneYard$Hauls;", Cond.fieldLink RX3 50 "CraneYard" "day" "I", Cond.fieldLink RX3 53 "CraneYard" "stormy" "Z", Cond.methodLink RX3 269 yX1_feeOfOneDay, Cond.instanceMethod yX1_feeOfOneDay, Cond.selects RX1 yX1_feeOfOneDay yX1_feeOfOneDay, Cond.initialized RX1, Cond.code yX1_feeOfOneDay cX1_feeOfOneDay 3 (some .int), Cond.fieldLink RX1 9 "CraneYard$Stacks" "heights" "[I", Cond.methodLink RX3 272 yX0_endDay, Cond.instanceMethod yX0_endDay, Cond.selects RX0 yX0_endDay yX0_endDay, Cond.initialized RX0, Cond.code yX0_endDay cX0_endDay 3 none, Cond.fieldLink RX0 27 "CraneYard$Hauls" "count" "I", Cond.fieldLink RX0 15 "CraneYard$Hauls" "lastDays" "[I", Cond.fieldLink RX0 18 "CraneYard$Hauls" "states" "[I", Cond.fieldLink RX0 34 "CraneYard$Hauls" "owed" "I", Cond.methodLink RX0 41 yX0_isOpen, Cond.instanceMethod yX0_isOpen, Cond.selects RX0 yX0_isOpen yX0_isOpen, Cond.code yX0_isOpen cX0_isOpen 3 (some .boolean)]
def wsX3_endDay_r2 : List Cond := [Cond.methodLink RX0 37 yX0_stateOf, Cond.instanceMethod yX0_stateOf, Cond.selects RX0 yX0_stateOf yX0_stateOf, Cond.code yX0_stateOf cX0_stateOf 2 (some .int)]
def wsX3_endDay : List Cond := .code yX3_endDay cX3_endDay 1 none :: ((wsX3_endDay_r1 ++ wsX3_endDay_r2) ++ wsX30 ++ wsX10 ++ wsX00)
def wsX3_pass_r1 : List Cond := [Cond.classLink RX3 60 "java/lang/IllegalArgumentException", Cond.initialized "java/lang/IllegalArgumentException", Cond.classLink RX3 74 "java/lang/IllegalStateException", Cond.initialized "java/lang/IllegalStateException", Cond.fieldLink RX3 50 "CraneYard" "day" "I", Cond.fieldLink RX3 57 "CraneYard" "fees" "I", Cond.methodLink RX3 231 yX3_endDay, Cond.instanceMethod yX3_endDay, Cond.selects RX3 yX3_endDay yX3_endDay, Cond.initialized RX3, Cond.code yX3_endDay cX3_endDay 1 none, Cond.fieldLink RX3 10 "CraneYard" "stacks" "LCraneYard$Stacks;", Cond.fieldLink RX3 29 "CraneYard" "hauls" "LCraneYard$Hauls;", Cond.fieldLink RX3 53 "CraneYard" "stormy" "Z", Cond.methodLink RX3 269 yX1_feeOfOneDay, Cond.instanceMethod yX1_feeOfOneDay, Cond.selects RX1 yX1_feeOfOneDay yX1_feeOfOneDay, Cond.initialized RX1, Cond.code yX1_feeOfOneDay cX1_feeOfOneDay 3 (some .int), Cond.fieldLink RX1 9 "CraneYard$Stacks" "heights" "[I", Cond.methodLink RX3 272 yX0_endDay, Cond.instanceMethod yX0_endDay, Cond.selects RX0 yX0_endDay yX0_endDay, Cond.initialized RX0]
def wsX3_pass_r2 : List Cond := [Cond.code yX0_endDay cX0_endDay 3 none, Cond.fieldLink RX0 27 "CraneYard$Hauls" "count" "I", Cond.fieldLink RX0 15 "CraneYard$Hauls" "lastDays" "[I", Cond.fieldLink RX0 18 "CraneYard$Hauls" "states" "[I", Cond.fieldLink RX0 34 "CraneYard$Hauls" "owed" "I", Cond.methodLink RX0 41 yX0_isOpen, Cond.instanceMethod yX0_isOpen, Cond.selects RX0 yX0_isOpen yX0_isOpen, Cond.code yX0_isOpen cX0_isOpen 3 (some .boolean), Cond.methodLink RX0 37 yX0_stateOf, Cond.instanceMethod yX0_stateOf, Cond.selects RX0 yX0_stateOf yX0_stateOf, Cond.code yX0_stateOf cX0_stateOf 2 (some .int)]
def wsX3_pass : List Cond := .code yX3_pass cX3_pass 4 (some .int) :: ((wsX3_pass_r1 ++ wsX3_pass_r2) ++ wsX30 ++ wsX10 ++ wsX00 ++ (vx_atS RX3 64 "java/lang/IllegalArgumentException" ["java/lang/RuntimeException", "java/lang/Exception"]).filter goodWord ++ (vx_atS RX3 78 "java/lang/IllegalStateException" ["java/lang/RuntimeException", "java/lang/Exception"]).filter goodWord)
def wsX3_today : List Cond := .code yX3_today cX3_today 1 (some .int) :: ([.fieldLink RX3 50 "CraneYard" "day" "I"] ++ wsX30)
def wsX3_balance : List Cond := .code yX3_balance cX3_balance 1 (some .int) :: ([.fieldLink RX3 22 "CraneYard" "words" "LCraneYard$Words;", .fieldLink RX3 57 "CraneYard" "fees" "I", .fieldLink RX3 29 "CraneYard" "hauls" "LCraneYard$Hauls;", .methodLink RX3 174 yX2_paidInAll, .instanceMethod yX2_paidInAll, .selects RX2 yX2_paidInAll yX2_paidInAll, .initialized RX2, .code yX2_paidInAll cX2_paidInAll 1 (some .int), .fieldLink RX2 26 "CraneYard$Words" "sum" "I", .methodLink RX3 234 yX0_pricesOfDone, .instanceMethod yX0_pricesOfDone, .selects RX0 yX0_pricesOfDone yX0_pricesOfDone, .initialized RX0, .code yX0_pricesOfDone cX0_pricesOfDone 1 (some .int), .fieldLink RX0 31 "CraneYard$Hauls" "pricesPaid" "I", .methodLink RX3 237 yX0_owedForLate, .instanceMethod yX0_owedForLate, .selects RX0 yX0_owedForLate yX0_owedForLate, .code yX0_owedForLate cX0_owedForLate 1 (some .int), .fieldLink RX0 34 "CraneYard$Hauls" "owed" "I"] ++ wsX30 ++ wsX20 ++ wsX00)
def wsX4_init : List Cond := .code yX4_init cX4_init 1 none :: ([.methodLink RX4 1 objectInit, .instanceMethod objectInit, .code objectInit ⟨#[0xb1]⟩ 1 none, .arrayClass .int, .fieldLink RX4 7 "CraneYardModel" "yard" "[I", .fieldLink RX4 13 "CraneYardModel" "heights" "[I", .fieldLink RX4 16 "CraneYardModel" "weights" "[I", .fieldLink RX4 19 "CraneYardModel" "letters" "[I", .fieldLink RX4 22 "CraneYardModel" "crane" "I", .fieldLink RX4 26 "CraneYardModel" "tried" "[I", .fieldLink RX4 29 "CraneYardModel" "triedHeights" "[I", .fieldLink RX4 32 "CraneYardModel" "words" "[I", .arrayClass .boolean, .fieldLink RX4 35 "CraneYardModel" "hasPaid" "[Z", .fieldLink RX4 39 "CraneYardModel" "loads" "[I", .fieldLink RX4 42 "CraneYardModel" "lastDays" "[I", .fieldLink RX4 45 "CraneYardModel" "states" "[I", .fieldLink RX4 48 "CraneYardModel" "prices" "[I", .fieldLink RX4 51 "CraneYardModel" "bids" "[I"] ++ wsX40)
def wsX4_thrown : List Cond := .code yX4_thrown cX4_thrown 1 (some .int) :: ([.fieldLink RX4 54 "CraneYardModel" "thrown" "I"] ++ wsX40)
def wsX4_goesWell : List Cond := .code yX4_goesWell cX4_goesWell 2 (some .boolean) :: ([.fieldLink RX4 54 "CraneYardModel" "thrown" "I"] ++ wsX40)
def wsX4_in : List Cond := .code yX4_in cX4_in 3 (some .boolean) :: ([])
def wsX4_isStack : List Cond := .code yX4_isStack cX4_isStack 1 (some .boolean) :: ([.methodLink RX4 57 yX4_in, .static yX4_in, .initialized RX4, .code yX4_in cX4_in 3 (some .boolean)])
def wsX4_isCrate : List Cond := .code yX4_isCrate cX4_isCrate 2 (some .boolean) :: ([.fieldLink RX4 61 "CraneYardModel" "crates" "I", .methodLink RX4 57 yX4_in, .static yX4_in, .initialized RX4, .code yX4_in cX4_in 3 (some .boolean)] ++ wsX40)
def wsX4_isHaul : List Cond := .code yX4_isHaul cX4_isHaul 2 (some .boolean) :: ([.fieldLink RX4 64 "CraneYardModel" "hauls" "I", .methodLink RX4 57 yX4_in, .static yX4_in, .initialized RX4, .code yX4_in cX4_in 3 (some .boolean)] ++ wsX40)
def wsX4_most : List Cond := .code yX4_most cX4_most 1 (some .int) :: ([.fieldLink RX4 67 "CraneYardModel" "isStorm" "Z"] ++ wsX40)
def wsX4_canPut : List Cond := .code yX4_canPut cX4_canPut 4 (some .boolean) :: ([.fieldLink RX4 13 "CraneYardModel" "heights" "[I", .fieldLink RX4 16 "CraneYardModel" "weights" "[I", .fieldLink RX4 7 "CraneYardModel" "yard" "[I", .methodLink RX4 71 yX4_most, .instanceMethod yX4_most, .selects RX4 yX4_most yX4_most, .initialized RX4, .code yX4_most cX4_most 1 (some .int), .fieldLink RX4 67 "CraneYardModel" "isStorm" "Z"] ++ wsX40)
def wsX4_put : List Cond := .code yX4_put cX4_put 3 none :: ([.fieldLink RX4 7 "CraneYardModel" "yard" "[I", .fieldLink RX4 13 "CraneYardModel" "heights" "[I"] ++ wsX40)
def wsX4_topOf : List Cond := .code yX4_topOf cX4_topOf 2 (some .int) :: ([.fieldLink RX4 7 "CraneYardModel" "yard" "[I", .fieldLink RX4 13 "CraneYardModel" "heights" "[I"] ++ wsX40)
def wsX4_isOnLids : List Cond := .code yX4_isOnLids cX4_isOnLids 6 (some .boolean) :: ([.fieldLink RX4 32 "CraneYardModel" "words" "[I", .fieldLink RX4 13 "CraneYardModel" "heights" "[I", .fieldLink RX4 19 "CraneYardModel" "letters" "[I", .methodLink RX4 75 yX4_topOf, .instanceMethod yX4_topOf, .selects RX4 yX4_topOf yX4_topOf, .initialized RX4, .code yX4_topOf cX4_topOf 2 (some .int), .fieldLink RX4 7 "CraneYardModel" "yard" "[I"] ++ wsX40)
def wsX4_sizeOf : List Cond := .code yX4_sizeOf cX4_sizeOf 2 (some .int) :: ([.fieldLink RX4 32 "CraneYardModel" "words" "[I"] ++ wsX40)
def wsX4_payWords : List Cond := .code yX4_payWords cX4_payWords 4 none :: ([.fieldLink RX4 79 "CraneYardModel" "many" "I", .fieldLink RX4 13 "CraneYardModel" "heights" "[I", .fieldLink RX4 35 "CraneYardModel" "hasPaid" "[Z", .fieldLink RX4 86 "CraneYardModel" "bonus" "I", .methodLink RX4 82 yX4_isOnLids, .instanceMethod yX4_isOnLids, .selects RX4 yX4_isOnLids yX4_isOnLids, .initialized RX4, .code yX4_isOnLids cX4_isOnLids 6 (some .boolean), .fieldLink RX4 32 "CraneYardModel" "words" "[I", .fieldLink RX4 19 "CraneYardModel" "letters" "[I", .methodLink RX4 75 yX4_topOf, .instanceMethod yX4_topOf, .selects RX4 yX4_topOf yX4_topOf, .code yX4_topOf cX4_topOf 2 (some .int), .fieldLink RX4 7 "CraneYardModel" "yard" "[I", .methodLink RX4 89 yX4_sizeOf, .instanceMethod yX4_sizeOf, .selects RX4 yX4_sizeOf yX4_sizeOf, .code yX4_sizeOf cX4_sizeOf 2 (some .int)] ++ wsX40)
def wsX4_arrive_r1 : List Cond := [Cond.fieldLink RX4 61 "CraneYardModel" "crates" "I", Cond.fieldLink RX4 16 "CraneYardModel" "weights" "[I", Cond.fieldLink RX4 19 "CraneYardModel" "letters" "[I", Cond.methodLink RX4 57 yX4_in, Cond.static yX4_in, Cond.initialized RX4, Cond.code yX4_in cX4_in 3 (some .boolean), Cond.methodLink RX4 92 yX4_isStack, Cond.static yX4_isStack, Cond.code yX4_isStack cX4_isStack 1 (some .boolean), Cond.methodLink RX4 96 yX4_canPut, Cond.instanceMethod yX4_canPut, Cond.selects RX4 yX4_canPut yX4_canPut, Cond.code yX4_canPut cX4_canPut 4 (some .boolean), Cond.fieldLink RX4 13 "CraneYardModel" "heights" "[I", Cond.fieldLink RX4 7 "CraneYardModel" "yard" "[I", Cond.methodLink RX4 71 yX4_most, Cond.instanceMethod yX4_most, Cond.selects RX4 yX4_most yX4_most, Cond.code yX4_most cX4_most 1 (some .int), Cond.fieldLink RX4 67 "CraneYardModel" "isStorm" "Z", Cond.methodLink RX4 99 yX4_goesWell, Cond.instanceMethod yX4_goesWell, Cond.selects RX4 yX4_goesWell yX4_goesWell]
def wsX4_arrive_r2 : List Cond := [Cond.code yX4_goesWell cX4_goesWell 2 (some .boolean), Cond.fieldLink RX4 54 "CraneYardModel" "thrown" "I", Cond.methodLink RX4 102 yX4_put, Cond.instanceMethod yX4_put, Cond.selects RX4 yX4_put yX4_put, Cond.code yX4_put cX4_put 3 none, Cond.methodLink RX4 106 yX4_payWords, Cond.instanceMethod yX4_payWords, Cond.selects RX4 yX4_payWords yX4_payWords, Cond.code yX4_payWords cX4_payWords 4 none, Cond.fieldLink RX4 79 "CraneYardModel" "many" "I", Cond.fieldLink RX4 35 "CraneYardModel" "hasPaid" "[Z", Cond.fieldLink RX4 86 "CraneYardModel" "bonus" "I", Cond.methodLink RX4 82 yX4_isOnLids, Cond.instanceMethod yX4_isOnLids, Cond.selects RX4 yX4_isOnLids yX4_isOnLids, Cond.code yX4_isOnLids cX4_isOnLids 6 (some .boolean), Cond.fieldLink RX4 32 "CraneYardModel" "words" "[I", Cond.methodLink RX4 75 yX4_topOf, Cond.instanceMethod yX4_topOf, Cond.selects RX4 yX4_topOf yX4_topOf, Cond.code yX4_topOf cX4_topOf 2 (some .int), Cond.methodLink RX4 89 yX4_sizeOf, Cond.instanceMethod yX4_sizeOf]
def wsX4_arrive_r3 : List Cond := [Cond.selects RX4 yX4_sizeOf yX4_sizeOf, Cond.code yX4_sizeOf cX4_sizeOf 2 (some .int)]
def wsX4_arrive : List Cond := .code yX4_arrive cX4_arrive 6 (some .int) :: ((wsX4_arrive_r1 ++ (wsX4_arrive_r2 ++ wsX4_arrive_r3)) ++ wsX40)
def wsX4_lift_r1 : List Cond := [Cond.fieldLink RX4 13 "CraneYardModel" "heights" "[I", Cond.fieldLink RX4 22 "CraneYardModel" "crane" "I", Cond.fieldLink RX4 109 "CraneYardModel" "lifts" "I", Cond.methodLink RX4 92 yX4_isStack, Cond.static yX4_isStack, Cond.initialized RX4, Cond.code yX4_isStack cX4_isStack 1 (some .boolean), Cond.methodLink RX4 57 yX4_in, Cond.static yX4_in, Cond.code yX4_in cX4_in 3 (some .boolean), Cond.methodLink RX4 99 yX4_goesWell, Cond.instanceMethod yX4_goesWell, Cond.selects RX4 yX4_goesWell yX4_goesWell, Cond.code yX4_goesWell cX4_goesWell 2 (some .boolean), Cond.fieldLink RX4 54 "CraneYardModel" "thrown" "I", Cond.methodLink RX4 75 yX4_topOf, Cond.instanceMethod yX4_topOf, Cond.selects RX4 yX4_topOf yX4_topOf, Cond.code yX4_topOf cX4_topOf 2 (some .int), Cond.fieldLink RX4 7 "CraneYardModel" "yard" "[I", Cond.methodLink RX4 106 yX4_payWords, Cond.instanceMethod yX4_payWords, Cond.selects RX4 yX4_payWords yX4_payWords, Cond.code yX4_payWords cX4_payWords 4 none]
def wsX4_lift_r2 : List Cond := [Cond.fieldLink RX4 79 "CraneYardModel" "many" "I", Cond.fieldLink RX4 35 "CraneYardModel" "hasPaid" "[Z", Cond.fieldLink RX4 86 "CraneYardModel" "bonus" "I", Cond.methodLink RX4 82 yX4_isOnLids, Cond.instanceMethod yX4_isOnLids, Cond.selects RX4 yX4_isOnLids yX4_isOnLids, Cond.code yX4_isOnLids cX4_isOnLids 6 (some .boolean), Cond.fieldLink RX4 32 "CraneYardModel" "words" "[I", Cond.fieldLink RX4 19 "CraneYardModel" "letters" "[I", Cond.methodLink RX4 89 yX4_sizeOf, Cond.instanceMethod yX4_sizeOf, Cond.selects RX4 yX4_sizeOf yX4_sizeOf, Cond.code yX4_sizeOf cX4_sizeOf 2 (some .int)]
def wsX4_lift : List Cond := .code yX4_lift cX4_lift 3 (some .int) :: ((wsX4_lift_r1 ++ wsX4_lift_r2) ++ wsX40)
def wsX4_drop_r1 : List Cond := [Cond.fieldLink RX4 22 "CraneYardModel" "crane" "I", Cond.fieldLink RX4 16 "CraneYardModel" "weights" "[I", Cond.fieldLink RX4 13 "CraneYardModel" "heights" "[I", Cond.methodLink RX4 92 yX4_isStack, Cond.static yX4_isStack, Cond.initialized RX4, Cond.code yX4_isStack cX4_isStack 1 (some .boolean), Cond.methodLink RX4 57 yX4_in, Cond.static yX4_in, Cond.code yX4_in cX4_in 3 (some .boolean), Cond.methodLink RX4 96 yX4_canPut, Cond.instanceMethod yX4_canPut, Cond.selects RX4 yX4_canPut yX4_canPut, Cond.code yX4_canPut cX4_canPut 4 (some .boolean), Cond.fieldLink RX4 7 "CraneYardModel" "yard" "[I", Cond.methodLink RX4 71 yX4_most, Cond.instanceMethod yX4_most, Cond.selects RX4 yX4_most yX4_most, Cond.code yX4_most cX4_most 1 (some .int), Cond.fieldLink RX4 67 "CraneYardModel" "isStorm" "Z", Cond.methodLink RX4 99 yX4_goesWell, Cond.instanceMethod yX4_goesWell, Cond.selects RX4 yX4_goesWell yX4_goesWell, Cond.code yX4_goesWell cX4_goesWell 2 (some .boolean)]
def wsX4_drop_r2 : List Cond := [Cond.fieldLink RX4 54 "CraneYardModel" "thrown" "I", Cond.methodLink RX4 102 yX4_put, Cond.instanceMethod yX4_put, Cond.selects RX4 yX4_put yX4_put, Cond.code yX4_put cX4_put 3 none, Cond.methodLink RX4 106 yX4_payWords, Cond.instanceMethod yX4_payWords, Cond.selects RX4 yX4_payWords yX4_payWords, Cond.code yX4_payWords cX4_payWords 4 none, Cond.fieldLink RX4 79 "CraneYardModel" "many" "I", Cond.fieldLink RX4 35 "CraneYardModel" "hasPaid" "[Z", Cond.fieldLink RX4 86 "CraneYardModel" "bonus" "I", Cond.methodLink RX4 82 yX4_isOnLids, Cond.instanceMethod yX4_isOnLids, Cond.selects RX4 yX4_isOnLids yX4_isOnLids, Cond.code yX4_isOnLids cX4_isOnLids 6 (some .boolean), Cond.fieldLink RX4 32 "CraneYardModel" "words" "[I", Cond.fieldLink RX4 19 "CraneYardModel" "letters" "[I", Cond.methodLink RX4 75 yX4_topOf, Cond.instanceMethod yX4_topOf, Cond.selects RX4 yX4_topOf yX4_topOf, Cond.code yX4_topOf cX4_topOf 2 (some .int), Cond.methodLink RX4 89 yX4_sizeOf, Cond.instanceMethod yX4_sizeOf]
def wsX4_drop_r3 : List Cond := [Cond.selects RX4 yX4_sizeOf yX4_sizeOf, Cond.code yX4_sizeOf cX4_sizeOf 2 (some .int)]
def wsX4_drop : List Cond := .code yX4_drop cX4_drop 4 (some .int) :: ((wsX4_drop_r1 ++ (wsX4_drop_r2 ++ wsX4_drop_r3)) ++ wsX40)
def wsX4_copyYard : List Cond := .code yX4_copyYard cX4_copyYard 2 none :: ([.fieldLink RX4 26 "CraneYardModel" "tried" "[I", .fieldLink RX4 7 "CraneYardModel" "yard" "[I", .fieldLink RX4 29 "CraneYardModel" "triedHeights" "[I", .fieldLink RX4 13 "CraneYardModel" "heights" "[I"] ++ wsX40)
def wsX4_canTry : List Cond := .code yX4_canTry cX4_canTry 4 (some .boolean) :: ([.fieldLink RX4 29 "CraneYardModel" "triedHeights" "[I", .fieldLink RX4 16 "CraneYardModel" "weights" "[I", .fieldLink RX4 26 "CraneYardModel" "tried" "[I", .methodLink RX4 71 yX4_most, .instanceMethod yX4_most, .selects RX4 yX4_most yX4_most, .initialized RX4, .code yX4_most cX4_most 1 (some .int), .fieldLink RX4 67 "CraneYardModel" "isStorm" "Z"] ++ wsX40)
def wsX4_find : List Cond := .code yX4_find cX4_find 3 (some .int) :: ([.fieldLink RX4 29 "CraneYardModel" "triedHeights" "[I", .fieldLink RX4 26 "CraneYardModel" "tried" "[I"] ++ wsX40)
def wsX4_digOut : List Cond := .code yX4_digOut cX4_digOut 8 (some .int) :: ([.fieldLink RX4 26 "CraneYardModel" "tried" "[I", .fieldLink RX4 29 "CraneYardModel" "triedHeights" "[I", .methodLink RX4 112 yX4_find, .instanceMethod yX4_find, .selects RX4 yX4_find yX4_find, .initialized RX4, .code yX4_find cX4_find 3 (some .int), .methodLink RX4 115 yX4_canTry, .instanceMethod yX4_canTry, .selects RX4 yX4_canTry yX4_canTry, .code yX4_canTry cX4_canTry 4 (some .boolean), .fieldLink RX4 16 "CraneYardModel" "weights" "[I", .methodLink RX4 71 yX4_most, .instanceMethod yX4_most, .selects RX4 yX4_most yX4_most, .code yX4_most cX4_most 1 (some .int), .fieldLink RX4 67 "CraneYardModel" "isStorm" "Z"] ++ wsX40)
def wsX4_dig_r1 : List Cond := [Cond.fieldLink RX4 22 "CraneYardModel" "crane" "I", Cond.fieldLink RX4 7 "CraneYardModel" "yard" "[I", Cond.fieldLink RX4 26 "CraneYardModel" "tried" "[I", Cond.fieldLink RX4 13 "CraneYardModel" "heights" "[I", Cond.fieldLink RX4 29 "CraneYardModel" "triedHeights" "[I", Cond.fieldLink RX4 109 "CraneYardModel" "lifts" "I", Cond.methodLink RX4 118 yX4_copyYard, Cond.instanceMethod yX4_copyYard, Cond.selects RX4 yX4_copyYard yX4_copyYard, Cond.initialized RX4, Cond.code yX4_copyYard cX4_copyYard 2 none, Cond.methodLink RX4 121 yX4_isCrate, Cond.instanceMethod yX4_isCrate, Cond.selects RX4 yX4_isCrate yX4_isCrate, Cond.code yX4_isCrate cX4_isCrate 2 (some .boolean), Cond.fieldLink RX4 61 "CraneYardModel" "crates" "I", Cond.methodLink RX4 57 yX4_in, Cond.static yX4_in, Cond.code yX4_in cX4_in 3 (some .boolean), Cond.methodLink RX4 124 yX4_digOut, Cond.instanceMethod yX4_digOut, Cond.selects RX4 yX4_digOut yX4_digOut, Cond.code yX4_digOut cX4_digOut 8 (some .int), Cond.methodLink RX4 112 yX4_find]
def wsX4_dig_r2 : List Cond := [Cond.instanceMethod yX4_find, Cond.selects RX4 yX4_find yX4_find, Cond.code yX4_find cX4_find 3 (some .int), Cond.methodLink RX4 115 yX4_canTry, Cond.instanceMethod yX4_canTry, Cond.selects RX4 yX4_canTry yX4_canTry, Cond.code yX4_canTry cX4_canTry 4 (some .boolean), Cond.fieldLink RX4 16 "CraneYardModel" "weights" "[I", Cond.methodLink RX4 71 yX4_most, Cond.instanceMethod yX4_most, Cond.selects RX4 yX4_most yX4_most, Cond.code yX4_most cX4_most 1 (some .int), Cond.fieldLink RX4 67 "CraneYardModel" "isStorm" "Z", Cond.methodLink RX4 99 yX4_goesWell, Cond.instanceMethod yX4_goesWell, Cond.selects RX4 yX4_goesWell yX4_goesWell, Cond.code yX4_goesWell cX4_goesWell 2 (some .boolean), Cond.fieldLink RX4 54 "CraneYardModel" "thrown" "I", Cond.methodLink RX4 106 yX4_payWords, Cond.instanceMethod yX4_payWords, Cond.selects RX4 yX4_payWords yX4_payWords, Cond.code yX4_payWords cX4_payWords 4 none, Cond.fieldLink RX4 79 "CraneYardModel" "many" "I", Cond.fieldLink RX4 35 "CraneYardModel" "hasPaid" "[Z"]
def wsX4_dig_r3 : List Cond := [Cond.fieldLink RX4 86 "CraneYardModel" "bonus" "I", Cond.methodLink RX4 82 yX4_isOnLids, Cond.instanceMethod yX4_isOnLids, Cond.selects RX4 yX4_isOnLids yX4_isOnLids, Cond.code yX4_isOnLids cX4_isOnLids 6 (some .boolean), Cond.fieldLink RX4 32 "CraneYardModel" "words" "[I", Cond.fieldLink RX4 19 "CraneYardModel" "letters" "[I", Cond.methodLink RX4 75 yX4_topOf, Cond.instanceMethod yX4_topOf, Cond.selects RX4 yX4_topOf yX4_topOf, Cond.code yX4_topOf cX4_topOf 2 (some .int), Cond.methodLink RX4 89 yX4_sizeOf, Cond.instanceMethod yX4_sizeOf, Cond.selects RX4 yX4_sizeOf yX4_sizeOf, Cond.code yX4_sizeOf cX4_sizeOf 2 (some .int)]
def wsX4_dig : List Cond := .code yX4_dig cX4_dig 4 (some .int) :: ((wsX4_dig_r1 ++ (wsX4_dig_r2 ++ wsX4_dig_r3)) ++ wsX40)
def wsX4_crane : List Cond := .code yX4_crane cX4_crane 1 (some .int) :: ([.fieldLink RX4 54 "CraneYardModel" "thrown" "I", .fieldLink RX4 22 "CraneYardModel" "crane" "I"] ++ wsX40)
def wsX4_height : List Cond := .code yX4_height cX4_height 2 (some .int) :: ([.fieldLink RX4 13 "CraneYardModel" "heights" "[I", .methodLink RX4 92 yX4_isStack, .static yX4_isStack, .initialized RX4, .code yX4_isStack cX4_isStack 1 (some .boolean), .methodLink RX4 57 yX4_in, .static yX4_in, .code yX4_in cX4_in 3 (some .boolean), .methodLink RX4 99 yX4_goesWell, .instanceMethod yX4_goesWell, .selects RX4 yX4_goesWell yX4_goesWell, .code yX4_goesWell cX4_goesWell 2 (some .boolean), .fieldLink RX4 54 "CraneYardModel" "thrown" "I"] ++ wsX40)
def wsX4_at : List Cond := .code yX4_at cX4_at 3 (some .int) :: ([.fieldLink RX4 13 "CraneYardModel" "heights" "[I", .fieldLink RX4 7 "CraneYardModel" "yard" "[I", .methodLink RX4 92 yX4_isStack, .static yX4_isStack, .initialized RX4, .code yX4_isStack cX4_isStack 1 (some .boolean), .methodLink RX4 57 yX4_in, .static yX4_in, .code yX4_in cX4_in 3 (some .boolean), .methodLink RX4 99 yX4_goesWell, .instanceMethod yX4_goesWell, .selects RX4 yX4_goesWell yX4_goesWell, .code yX4_goesWell cX4_goesWell 2 (some .boolean), .fieldLink RX4 54 "CraneYardModel" "thrown" "I"] ++ wsX40)
def wsX4_stackOf_r1 : List Cond := [Cond.methodLink RX4 121 yX4_isCrate, Cond.instanceMethod yX4_isCrate, Cond.selects RX4 yX4_isCrate yX4_isCrate, Cond.initialized RX4, Cond.code yX4_isCrate cX4_isCrate 2 (some .boolean), Cond.fieldLink RX4 61 "CraneYardModel" "crates" "I", Cond.methodLink RX4 57 yX4_in, Cond.static yX4_in, Cond.code yX4_in cX4_in 3 (some .boolean), Cond.methodLink RX4 99 yX4_goesWell, Cond.instanceMethod yX4_goesWell, Cond.selects RX4 yX4_goesWell yX4_goesWell, Cond.code yX4_goesWell cX4_goesWell 2 (some .boolean), Cond.fieldLink RX4 54 "CraneYardModel" "thrown" "I", Cond.methodLink RX4 118 yX4_copyYard, Cond.instanceMethod yX4_copyYard, Cond.selects RX4 yX4_copyYard yX4_copyYard, Cond.code yX4_copyYard cX4_copyYard 2 none, Cond.fieldLink RX4 26 "CraneYardModel" "tried" "[I", Cond.fieldLink RX4 7 "CraneYardModel" "yard" "[I", Cond.fieldLink RX4 29 "CraneYardModel" "triedHeights" "[I", Cond.fieldLink RX4 13 "CraneYardModel" "heights" "[I", Cond.methodLink RX4 112 yX4_find, Cond.instanceMethod yX4_find]
def wsX4_stackOf_r2 : List Cond := [Cond.selects RX4 yX4_find yX4_find, Cond.code yX4_find cX4_find 3 (some .int)]
def wsX4_stackOf : List Cond := .code yX4_stackOf cX4_stackOf 2 (some .int) :: ((wsX4_stackOf_r1 ++ wsX4_stackOf_r2) ++ wsX40)
def wsX4_lifts : List Cond := .code yX4_lifts cX4_lifts 1 (some .int) :: ([.fieldLink RX4 54 "CraneYardModel" "thrown" "I", .fieldLink RX4 109 "CraneYardModel" "lifts" "I"] ++ wsX40)
def wsX4_member : List Cond := .code yX4_member cX4_member 4 (some .int) :: ([])
def wsX4_bits : List Cond := .code yX4_bits cX4_bits 3 (some .int) :: ([])
def wsX4_isSet : List Cond := .code yX4_isSet cX4_isSet 4 (some .boolean) :: ([.constant RX4 127 (1073741824), .methodLink RX4 118 yX4_copyYard, .instanceMethod yX4_copyYard, .selects RX4 yX4_copyYard yX4_copyYard, .initialized RX4, .code yX4_copyYard cX4_copyYard 2 none, .fieldLink RX4 26 "CraneYardModel" "tried" "[I", .fieldLink RX4 7 "CraneYardModel" "yard" "[I", .fieldLink RX4 29 "CraneYardModel" "triedHeights" "[I", .fieldLink RX4 13 "CraneYardModel" "heights" "[I", .methodLink RX4 128 yX4_bits, .static yX4_bits, .code yX4_bits cX4_bits 3 (some .int), .methodLink RX4 57 yX4_in, .static yX4_in, .code yX4_in cX4_in 3 (some .boolean), .methodLink RX4 112 yX4_find, .instanceMethod yX4_find, .selects RX4 yX4_find yX4_find, .code yX4_find cX4_find 3 (some .int)] ++ wsX40)
def wsX4_liftsBy_r1 : List Cond := [Cond.methodLink RX4 118 yX4_copyYard, Cond.instanceMethod yX4_copyYard, Cond.selects RX4 yX4_copyYard yX4_copyYard, Cond.initialized RX4, Cond.code yX4_copyYard cX4_copyYard 2 none, Cond.fieldLink RX4 26 "CraneYardModel" "tried" "[I", Cond.fieldLink RX4 7 "CraneYardModel" "yard" "[I", Cond.fieldLink RX4 29 "CraneYardModel" "triedHeights" "[I", Cond.fieldLink RX4 13 "CraneYardModel" "heights" "[I", Cond.methodLink RX4 131 yX4_member, Cond.static yX4_member, Cond.code yX4_member cX4_member 4 (some .int), Cond.methodLink RX4 124 yX4_digOut, Cond.instanceMethod yX4_digOut, Cond.selects RX4 yX4_digOut yX4_digOut, Cond.code yX4_digOut cX4_digOut 8 (some .int), Cond.methodLink RX4 112 yX4_find, Cond.instanceMethod yX4_find, Cond.selects RX4 yX4_find yX4_find, Cond.code yX4_find cX4_find 3 (some .int), Cond.methodLink RX4 115 yX4_canTry, Cond.instanceMethod yX4_canTry, Cond.selects RX4 yX4_canTry yX4_canTry, Cond.code yX4_canTry cX4_canTry 4 (some .boolean)]
def wsX4_liftsBy_r2 : List Cond := [Cond.fieldLink RX4 16 "CraneYardModel" "weights" "[I", Cond.methodLink RX4 71 yX4_most, Cond.instanceMethod yX4_most, Cond.selects RX4 yX4_most yX4_most, Cond.code yX4_most cX4_most 1 (some .int), Cond.fieldLink RX4 67 "CraneYardModel" "isStorm" "Z"]
def wsX4_liftsBy : List Cond := .code yX4_liftsBy cX4_liftsBy 11 (some .int) :: ((wsX4_liftsBy_r1 ++ wsX4_liftsBy_r2) ++ wsX40)
def wsX4_fewestLifts_r1 : List Cond := [Cond.fieldLink RX4 22 "CraneYardModel" "crane" "I", Cond.methodLink RX4 135 yX4_isSet, Cond.instanceMethod yX4_isSet, Cond.selects RX4 yX4_isSet yX4_isSet, Cond.initialized RX4, Cond.code yX4_isSet cX4_isSet 4 (some .boolean), Cond.constant RX4 127 (1073741824), Cond.methodLink RX4 118 yX4_copyYard, Cond.instanceMethod yX4_copyYard, Cond.selects RX4 yX4_copyYard yX4_copyYard, Cond.code yX4_copyYard cX4_copyYard 2 none, Cond.fieldLink RX4 26 "CraneYardModel" "tried" "[I", Cond.fieldLink RX4 7 "CraneYardModel" "yard" "[I", Cond.fieldLink RX4 29 "CraneYardModel" "triedHeights" "[I", Cond.fieldLink RX4 13 "CraneYardModel" "heights" "[I", Cond.methodLink RX4 128 yX4_bits, Cond.static yX4_bits, Cond.code yX4_bits cX4_bits 3 (some .int), Cond.methodLink RX4 57 yX4_in, Cond.static yX4_in, Cond.code yX4_in cX4_in 3 (some .boolean), Cond.methodLink RX4 112 yX4_find, Cond.instanceMethod yX4_find, Cond.selects RX4 yX4_find yX4_find]
def wsX4_fewestLifts_r2 : List Cond := [Cond.code yX4_find cX4_find 3 (some .int), Cond.methodLink RX4 99 yX4_goesWell, Cond.instanceMethod yX4_goesWell, Cond.selects RX4 yX4_goesWell yX4_goesWell, Cond.code yX4_goesWell cX4_goesWell 2 (some .boolean), Cond.fieldLink RX4 54 "CraneYardModel" "thrown" "I", Cond.methodLink RX4 138 yX4_liftsBy, Cond.instanceMethod yX4_liftsBy, Cond.selects RX4 yX4_liftsBy yX4_liftsBy, Cond.code yX4_liftsBy cX4_liftsBy 11 (some .int), Cond.methodLink RX4 131 yX4_member, Cond.static yX4_member, Cond.code yX4_member cX4_member 4 (some .int), Cond.methodLink RX4 124 yX4_digOut, Cond.instanceMethod yX4_digOut, Cond.selects RX4 yX4_digOut yX4_digOut, Cond.code yX4_digOut cX4_digOut 8 (some .int), Cond.methodLink RX4 115 yX4_canTry, Cond.instanceMethod yX4_canTry, Cond.selects RX4 yX4_canTry yX4_canTry, Cond.code yX4_canTry cX4_canTry 4 (some .boolean), Cond.fieldLink RX4 16 "CraneYardModel" "weights" "[I", Cond.methodLink RX4 71 yX4_most, Cond.instanceMethod yX4_most]
def wsX4_fewestLifts_r3 : List Cond := [Cond.selects RX4 yX4_most yX4_most, Cond.code yX4_most cX4_most 1 (some .int), Cond.fieldLink RX4 67 "CraneYardModel" "isStorm" "Z"]
def wsX4_fewestLifts : List Cond := .code yX4_fewestLifts cX4_fewestLifts 6 (some .int) :: ((wsX4_fewestLifts_r1 ++ (wsX4_fewestLifts_r2 ++ wsX4_fewestLifts_r3)) ++ wsX40)
def wsX4_isLetter : List Cond := .code yX4_isLetter cX4_isLetter 1 (some .boolean) :: ([.methodLink RX4 57 yX4_in, .static yX4_in, .initialized RX4, .code yX4_in cX4_in 3 (some .boolean)])
def wsX4_tell_r1 : List Cond := [Cond.fieldLink RX4 79 "CraneYardModel" "many" "I", Cond.fieldLink RX4 32 "CraneYardModel" "words" "[I", Cond.methodLink RX4 142 yX4_isLetter, Cond.static yX4_isLetter, Cond.initialized RX4, Cond.code yX4_isLetter cX4_isLetter 1 (some .boolean), Cond.methodLink RX4 57 yX4_in, Cond.static yX4_in, Cond.code yX4_in cX4_in 3 (some .boolean), Cond.methodLink RX4 99 yX4_goesWell, Cond.instanceMethod yX4_goesWell, Cond.selects RX4 yX4_goesWell yX4_goesWell, Cond.code yX4_goesWell cX4_goesWell 2 (some .boolean), Cond.fieldLink RX4 54 "CraneYardModel" "thrown" "I", Cond.methodLink RX4 106 yX4_payWords, Cond.instanceMethod yX4_payWords, Cond.selects RX4 yX4_payWords yX4_payWords, Cond.code yX4_payWords cX4_payWords 4 none, Cond.fieldLink RX4 13 "CraneYardModel" "heights" "[I", Cond.fieldLink RX4 35 "CraneYardModel" "hasPaid" "[Z", Cond.fieldLink RX4 86 "CraneYardModel" "bonus" "I", Cond.methodLink RX4 82 yX4_isOnLids, Cond.instanceMethod yX4_isOnLids, Cond.selects RX4 yX4_isOnLids yX4_isOnLids]
def wsX4_tell_r2 : List Cond := [Cond.code yX4_isOnLids cX4_isOnLids 6 (some .boolean), Cond.fieldLink RX4 19 "CraneYardModel" "letters" "[I", Cond.methodLink RX4 75 yX4_topOf, Cond.instanceMethod yX4_topOf, Cond.selects RX4 yX4_topOf yX4_topOf, Cond.code yX4_topOf cX4_topOf 2 (some .int), Cond.fieldLink RX4 7 "CraneYardModel" "yard" "[I", Cond.methodLink RX4 89 yX4_sizeOf, Cond.instanceMethod yX4_sizeOf, Cond.selects RX4 yX4_sizeOf yX4_sizeOf, Cond.code yX4_sizeOf cX4_sizeOf 2 (some .int)]
def wsX4_tell : List Cond := .code yX4_tell cX4_tell 6 (some .int) :: ((wsX4_tell_r1 ++ wsX4_tell_r2) ++ wsX40)
def wsX4_hasPaid : List Cond := .code yX4_hasPaid cX4_hasPaid 2 (some .boolean) :: ([.fieldLink RX4 79 "CraneYardModel" "many" "I", .fieldLink RX4 35 "CraneYardModel" "hasPaid" "[Z", .methodLink RX4 57 yX4_in, .static yX4_in, .initialized RX4, .code yX4_in cX4_in 3 (some .boolean), .methodLink RX4 99 yX4_goesWell, .instanceMethod yX4_goesWell, .selects RX4 yX4_goesWell yX4_goesWell, .code yX4_goesWell cX4_goesWell 2 (some .boolean), .fieldLink RX4 54 "CraneYardModel" "thrown" "I"] ++ wsX40)
def wsX4_bonus : List Cond := .code yX4_bonus cX4_bonus 1 (some .int) :: ([.fieldLink RX4 54 "CraneYardModel" "thrown" "I", .fieldLink RX4 86 "CraneYardModel" "bonus" "I"] ++ wsX40)
def wsX4_haulOf : List Cond := .code yX4_haulOf cX4_haulOf 3 (some .int) :: ([.fieldLink RX4 64 "CraneYardModel" "hauls" "I", .fieldLink RX4 39 "CraneYardModel" "loads" "[I", .fieldLink RX4 45 "CraneYardModel" "states" "[I"] ++ wsX40)
def wsX4_offer_r1 : List Cond := [Cond.fieldLink RX4 64 "CraneYardModel" "hauls" "I", Cond.fieldLink RX4 148 "CraneYardModel" "today" "I", Cond.fieldLink RX4 39 "CraneYardModel" "loads" "[I", Cond.fieldLink RX4 42 "CraneYardModel" "lastDays" "[I", Cond.fieldLink RX4 45 "CraneYardModel" "states" "[I", Cond.methodLink RX4 121 yX4_isCrate, Cond.instanceMethod yX4_isCrate, Cond.selects RX4 yX4_isCrate yX4_isCrate, Cond.initialized RX4, Cond.code yX4_isCrate cX4_isCrate 2 (some .boolean), Cond.fieldLink RX4 61 "CraneYardModel" "crates" "I", Cond.methodLink RX4 57 yX4_in, Cond.static yX4_in, Cond.code yX4_in cX4_in 3 (some .boolean), Cond.methodLink RX4 118 yX4_copyYard, Cond.instanceMethod yX4_copyYard, Cond.selects RX4 yX4_copyYard yX4_copyYard, Cond.code yX4_copyYard cX4_copyYard 2 none, Cond.fieldLink RX4 26 "CraneYardModel" "tried" "[I", Cond.fieldLink RX4 7 "CraneYardModel" "yard" "[I", Cond.fieldLink RX4 29 "CraneYardModel" "triedHeights" "[I", Cond.fieldLink RX4 13 "CraneYardModel" "heights" "[I", Cond.methodLink RX4 112 yX4_find, Cond.instanceMethod yX4_find]
def wsX4_offer_r2 : List Cond := [Cond.selects RX4 yX4_find yX4_find, Cond.code yX4_find cX4_find 3 (some .int), Cond.methodLink RX4 145 yX4_haulOf, Cond.instanceMethod yX4_haulOf, Cond.selects RX4 yX4_haulOf yX4_haulOf, Cond.code yX4_haulOf cX4_haulOf 3 (some .int), Cond.methodLink RX4 99 yX4_goesWell, Cond.instanceMethod yX4_goesWell, Cond.selects RX4 yX4_goesWell yX4_goesWell, Cond.code yX4_goesWell cX4_goesWell 2 (some .boolean), Cond.fieldLink RX4 54 "CraneYardModel" "thrown" "I"]
def wsX4_offer : List Cond := .code yX4_offer cX4_offer 5 (some .int) :: ((wsX4_offer_r1 ++ wsX4_offer_r2) ++ wsX40)
def wsX4_bid : List Cond := .code yX4_bid cX4_bid 7 none :: ([.fieldLink RX4 45 "CraneYardModel" "states" "[I", .fieldLink RX4 51 "CraneYardModel" "bids" "[I", .methodLink RX4 151 yX4_isHaul, .instanceMethod yX4_isHaul, .selects RX4 yX4_isHaul yX4_isHaul, .initialized RX4, .code yX4_isHaul cX4_isHaul 2 (some .boolean), .fieldLink RX4 64 "CraneYardModel" "hauls" "I", .methodLink RX4 57 yX4_in, .static yX4_in, .code yX4_in cX4_in 3 (some .boolean), .methodLink RX4 99 yX4_goesWell, .instanceMethod yX4_goesWell, .selects RX4 yX4_goesWell yX4_goesWell, .code yX4_goesWell cX4_goesWell 2 (some .boolean), .fieldLink RX4 54 "CraneYardModel" "thrown" "I"] ++ wsX40)
def wsX4_cheapest : List Cond := .code yX4_cheapest cX4_cheapest 5 (some .int) :: ([.fieldLink RX4 51 "CraneYardModel" "bids" "[I"] ++ wsX40)
def wsX4_give : List Cond := .code yX4_give cX4_give 4 (some .int) :: ([.fieldLink RX4 45 "CraneYardModel" "states" "[I", .fieldLink RX4 48 "CraneYardModel" "prices" "[I", .fieldLink RX4 51 "CraneYardModel" "bids" "[I", .methodLink RX4 151 yX4_isHaul, .instanceMethod yX4_isHaul, .selects RX4 yX4_isHaul yX4_isHaul, .initialized RX4, .code yX4_isHaul cX4_isHaul 2 (some .boolean), .fieldLink RX4 64 "CraneYardModel" "hauls" "I", .methodLink RX4 57 yX4_in, .static yX4_in, .code yX4_in cX4_in 3 (some .boolean), .methodLink RX4 154 yX4_cheapest, .instanceMethod yX4_cheapest, .selects RX4 yX4_cheapest yX4_cheapest, .code yX4_cheapest cX4_cheapest 5 (some .int), .methodLink RX4 99 yX4_goesWell, .instanceMethod yX4_goesWell, .selects RX4 yX4_goesWell yX4_goesWell, .code yX4_goesWell cX4_goesWell 2 (some .boolean), .fieldLink RX4 54 "CraneYardModel" "thrown" "I"] ++ wsX40)
def wsX4_load : List Cond := .code yX4_load cX4_load 2 (some .int) :: ([.fieldLink RX4 22 "CraneYardModel" "crane" "I", .fieldLink RX4 45 "CraneYardModel" "states" "[I", .fieldLink RX4 48 "CraneYardModel" "prices" "[I", .methodLink RX4 145 yX4_haulOf, .instanceMethod yX4_haulOf, .selects RX4 yX4_haulOf yX4_haulOf, .initialized RX4, .code yX4_haulOf cX4_haulOf 3 (some .int), .fieldLink RX4 64 "CraneYardModel" "hauls" "I", .fieldLink RX4 39 "CraneYardModel" "loads" "[I", .methodLink RX4 99 yX4_goesWell, .instanceMethod yX4_goesWell, .selects RX4 yX4_goesWell yX4_goesWell, .code yX4_goesWell cX4_goesWell 2 (some .boolean), .fieldLink RX4 54 "CraneYardModel" "thrown" "I"] ++ wsX40)
def wsX4_state : List Cond := .code yX4_state cX4_state 2 (some .int) :: ([.fieldLink RX4 45 "CraneYardModel" "states" "[I", .methodLink RX4 151 yX4_isHaul, .instanceMethod yX4_isHaul, .selects RX4 yX4_isHaul yX4_isHaul, .initialized RX4, .code yX4_isHaul cX4_isHaul 2 (some .boolean), .fieldLink RX4 64 "CraneYardModel" "hauls" "I", .methodLink RX4 57 yX4_in, .static yX4_in, .code yX4_in cX4_in 3 (some .boolean), .methodLink RX4 99 yX4_goesWell, .instanceMethod yX4_goesWell, .selects RX4 yX4_goesWell yX4_goesWell, .code yX4_goesWell cX4_goesWell 2 (some .boolean), .fieldLink RX4 54 "CraneYardModel" "thrown" "I"] ++ wsX40)
def wsX4_storm : List Cond := .code yX4_storm cX4_storm 3 (some .int) :: ([.fieldLink RX4 54 "CraneYardModel" "thrown" "I", .fieldLink RX4 67 "CraneYardModel" "isStorm" "Z", .fieldLink RX4 13 "CraneYardModel" "heights" "[I"] ++ wsX40)
def wsX4_endDay : List Cond := .code yX4_endDay cX4_endDay 3 (some .int) :: ([.fieldLink RX4 13 "CraneYardModel" "heights" "[I", .fieldLink RX4 64 "CraneYardModel" "hauls" "I", .fieldLink RX4 45 "CraneYardModel" "states" "[I", .fieldLink RX4 42 "CraneYardModel" "lastDays" "[I", .fieldLink RX4 148 "CraneYardModel" "today" "I", .fieldLink RX4 157 "CraneYardModel" "fees" "I", .fieldLink RX4 67 "CraneYardModel" "isStorm" "Z"] ++ wsX40)
def wsX4_pass : List Cond := .code yX4_pass cX4_pass 5 (some .int) :: ([.fieldLink RX4 148 "CraneYardModel" "today" "I", .methodLink RX4 57 yX4_in, .static yX4_in, .initialized RX4, .code yX4_in cX4_in 3 (some .boolean), .methodLink RX4 99 yX4_goesWell, .instanceMethod yX4_goesWell, .selects RX4 yX4_goesWell yX4_goesWell, .code yX4_goesWell cX4_goesWell 2 (some .boolean), .fieldLink RX4 54 "CraneYardModel" "thrown" "I", .methodLink RX4 160 yX4_endDay, .instanceMethod yX4_endDay, .selects RX4 yX4_endDay yX4_endDay, .code yX4_endDay cX4_endDay 3 (some .int), .fieldLink RX4 13 "CraneYardModel" "heights" "[I", .fieldLink RX4 64 "CraneYardModel" "hauls" "I", .fieldLink RX4 45 "CraneYardModel" "states" "[I", .fieldLink RX4 42 "CraneYardModel" "lastDays" "[I", .fieldLink RX4 157 "CraneYardModel" "fees" "I", .fieldLink RX4 67 "CraneYardModel" "isStorm" "Z"] ++ wsX40)
def wsX4_today : List Cond := .code yX4_today cX4_today 1 (some .int) :: ([.fieldLink RX4 54 "CraneYardModel" "thrown" "I", .fieldLink RX4 148 "CraneYardModel" "today" "I"] ++ wsX40)
def wsX4_balance : List Cond := .code yX4_balance cX4_balance 3 (some .int) :: ([.fieldLink RX4 54 "CraneYardModel" "thrown" "I", .fieldLink RX4 86 "CraneYardModel" "bonus" "I", .fieldLink RX4 157 "CraneYardModel" "fees" "I", .fieldLink RX4 64 "CraneYardModel" "hauls" "I", .fieldLink RX4 45 "CraneYardModel" "states" "[I", .fieldLink RX4 48 "CraneYardModel" "prices" "[I"] ++ wsX40)
def wsJ9_max_7cf53 : List Cond := .code yJ9_max_7cf53 cJ9_max_7cf53 2 (some .int) :: ([])
def wsL_arrive_r1 : List Cond := [Cond.classLink RL 13 "java/lang/IllegalArgumentException", Cond.classLink RL 15 "java/lang/IllegalStateException", Cond.methodLink RL 7 yX3_arrive, Cond.instanceMethod yX3_arrive, Cond.selects RX3 yX3_arrive yX3_arrive, Cond.initialized RX3, Cond.code yX3_arrive cX3_arrive 5 (some .int), Cond.classLink RX3 60 "java/lang/IllegalArgumentException", Cond.initialized "java/lang/IllegalArgumentException", Cond.classLink RX3 74 "java/lang/IllegalStateException", Cond.initialized "java/lang/IllegalStateException", Cond.fieldLink RX3 40 "CraneYard" "crateCount" "I", Cond.fieldLink RX3 33 "CraneYard" "letters" "[I", Cond.fieldLink RX3 10 "CraneYard" "stacks" "LCraneYard$Stacks;", Cond.methodLink RX3 67 yX3_requireLetter, Cond.static yX3_requireLetter, Cond.code yX3_requireLetter cX3_requireLetter 1 none, Cond.methodLink RX3 71 yX3_requireStack, Cond.static yX3_requireStack, Cond.code yX3_requireStack cX3_requireStack 1 none, Cond.methodLink RX3 79 yX3_requireRoom, Cond.instanceMethod yX3_requireRoom, Cond.selects RX3 yX3_requireRoom yX3_requireRoom, Cond.code yX3_requireRoom cX3_requireRoom 3 none]
def wsL_arrive_r2 : List Cond := [Cond.methodLink RX3 120 yX3_mostPlaces, Cond.instanceMethod yX3_mostPlaces, Cond.selects RX3 yX3_mostPlaces yX3_mostPlaces, Cond.code yX3_mostPlaces cX3_mostPlaces 1 (some .int), Cond.fieldLink RX3 53 "CraneYard" "stormy" "Z", Cond.methodLink RX3 256 yX1_canTake, Cond.instanceMethod yX1_canTake, Cond.selects RX1 yX1_canTake yX1_canTake, Cond.initialized RX1, Cond.code yX1_canTake cX1_canTake 5 (some .boolean), Cond.methodLink RX1 27 yX1_heightOf, Cond.instanceMethod yX1_heightOf, Cond.selects RX1 yX1_heightOf yX1_heightOf, Cond.code yX1_heightOf cX1_heightOf 2 (some .int), Cond.fieldLink RX1 9 "CraneYard$Stacks" "heights" "[I", Cond.methodLink RX1 31 yX1_topOf, Cond.instanceMethod yX1_topOf, Cond.selects RX1 yX1_topOf yX1_topOf, Cond.code yX1_topOf cX1_topOf 3 (some .int), Cond.fieldLink RX1 15 "CraneYard$Stacks" "cells" "[I", Cond.methodLink RX1 34 yX1_weightOf, Cond.instanceMethod yX1_weightOf, Cond.selects RX1 yX1_weightOf yX1_weightOf, Cond.code yX1_weightOf cX1_weightOf 2 (some .int)]
def wsL_arrive_r3 : List Cond := [Cond.fieldLink RX1 18 "CraneYard$Stacks" "weights" "[I", Cond.methodLink RX3 83 yX1_setWeight, Cond.instanceMethod yX1_setWeight, Cond.selects RX1 yX1_setWeight yX1_setWeight, Cond.code yX1_setWeight cX1_setWeight 3 none, Cond.methodLink RX3 86 yX1_put, Cond.instanceMethod yX1_put, Cond.selects RX1 yX1_put yX1_put, Cond.code yX1_put cX1_put 4 none, Cond.methodLink RX3 89 yX3_payWords, Cond.instanceMethod yX3_payWords, Cond.selects RX3 yX3_payWords yX3_payWords, Cond.code yX3_payWords cX3_payWords 4 none, Cond.fieldLink RX3 37 "CraneYard" "lids" "[I", Cond.fieldLink RX3 22 "CraneYard" "words" "LCraneYard$Words;", Cond.methodLink RX3 262 yX1_topOf, Cond.methodLink RX3 265 yX2_payShown, Cond.instanceMethod yX2_payShown, Cond.selects RX2 yX2_payShown yX2_payShown, Cond.initialized RX2, Cond.code yX2_payShown cX2_payShown 4 none, Cond.fieldLink RX2 22 "CraneYard$Words" "count" "I", Cond.fieldLink RX2 18 "CraneYard$Words" "paid" "[Z", Cond.fieldLink RX2 26 "CraneYard$Words" "sum" "I"]
def wsL_arrive_r4 : List Cond := [Cond.fieldLink RX2 15 "CraneYard$Words" "lengths" "[I", Cond.methodLink RX2 29 yX2_isShown, Cond.instanceMethod yX2_isShown, Cond.selects RX2 yX2_isShown yX2_isShown, Cond.code yX2_isShown cX2_isShown 6 (some .boolean), Cond.methodLink RX2 33 yX2_isShownFrom, Cond.instanceMethod yX2_isShownFrom, Cond.selects RX2 yX2_isShownFrom yX2_isShownFrom, Cond.code yX2_isShownFrom cX2_isShownFrom 5 (some .boolean), Cond.fieldLink RX2 9 "CraneYard$Words" "letters" "[I"]
def wsL_arrive : List Cond := .codeWith yL_arrive cL_arrive 6 (some .int) [(0, 12, 15, 13), (0, 12, 19, 15)] :: ((wsL_arrive_r1 ++ (wsL_arrive_r2 ++ (wsL_arrive_r3 ++ wsL_arrive_r4))) ++ wsX30 ++ wsX10 ++ wsX20 ++ (vx_atS RX3 64 "java/lang/IllegalArgumentException" ["java/lang/RuntimeException", "java/lang/Exception"]).filter goodWord ++ (vx_atS RX3 78 "java/lang/IllegalStateException" ["java/lang/RuntimeException", "java/lang/Exception"]).filter goodWord)
def wsL_lift_r1 : List Cond := [Cond.classLink RL 13 "java/lang/IllegalArgumentException", Cond.classLink RL 15 "java/lang/IllegalStateException", Cond.methodLink RL 17 yX3_lift, Cond.instanceMethod yX3_lift, Cond.selects RX3 yX3_lift yX3_lift, Cond.initialized RX3, Cond.code yX3_lift cX3_lift 2 (some .int), Cond.classLink RX3 74 "java/lang/IllegalStateException", Cond.initialized "java/lang/IllegalStateException", Cond.fieldLink RX3 10 "CraneYard" "stacks" "LCraneYard$Stacks;", Cond.fieldLink RX3 44 "CraneYard" "craneCrate" "I", Cond.fieldLink RX3 47 "CraneYard" "liftCount" "I", Cond.methodLink RX3 71 yX3_requireStack, Cond.static yX3_requireStack, Cond.code yX3_requireStack cX3_requireStack 1 none, Cond.classLink RX3 60 "java/lang/IllegalArgumentException", Cond.initialized "java/lang/IllegalArgumentException", Cond.methodLink RX3 92 yX3_requireEmptyCrane, Cond.instanceMethod yX3_requireEmptyCrane, Cond.selects RX3 yX3_requireEmptyCrane yX3_requireEmptyCrane, Cond.code yX3_requireEmptyCrane cX3_requireEmptyCrane 1 none, Cond.methodLink RX3 95 yX1_heightOf, Cond.instanceMethod yX1_heightOf, Cond.selects RX1 yX1_heightOf yX1_heightOf]
def wsL_lift_r2 : List Cond := [Cond.initialized RX1, Cond.code yX1_heightOf cX1_heightOf 2 (some .int), Cond.fieldLink RX1 9 "CraneYard$Stacks" "heights" "[I", Cond.methodLink RX3 101 yX1_takeTop, Cond.instanceMethod yX1_takeTop, Cond.selects RX1 yX1_takeTop yX1_takeTop, Cond.code yX1_takeTop cX1_takeTop 3 (some .int), Cond.methodLink RX1 31 yX1_topOf, Cond.instanceMethod yX1_topOf, Cond.selects RX1 yX1_topOf yX1_topOf, Cond.code yX1_topOf cX1_topOf 3 (some .int), Cond.fieldLink RX1 15 "CraneYard$Stacks" "cells" "[I", Cond.methodLink RX1 27 yX1_heightOf, Cond.methodLink RX3 89 yX3_payWords, Cond.instanceMethod yX3_payWords, Cond.selects RX3 yX3_payWords yX3_payWords, Cond.code yX3_payWords cX3_payWords 4 none, Cond.fieldLink RX3 37 "CraneYard" "lids" "[I", Cond.fieldLink RX3 33 "CraneYard" "letters" "[I", Cond.fieldLink RX3 22 "CraneYard" "words" "LCraneYard$Words;", Cond.methodLink RX3 262 yX1_topOf, Cond.methodLink RX3 265 yX2_payShown, Cond.instanceMethod yX2_payShown, Cond.selects RX2 yX2_payShown yX2_payShown]
def wsL_lift_r3 : List Cond := [Cond.initialized RX2, Cond.code yX2_payShown cX2_payShown 4 none, Cond.fieldLink RX2 22 "CraneYard$Words" "count" "I", Cond.fieldLink RX2 18 "CraneYard$Words" "paid" "[Z", Cond.fieldLink RX2 26 "CraneYard$Words" "sum" "I", Cond.fieldLink RX2 15 "CraneYard$Words" "lengths" "[I", Cond.methodLink RX2 29 yX2_isShown, Cond.instanceMethod yX2_isShown, Cond.selects RX2 yX2_isShown yX2_isShown, Cond.code yX2_isShown cX2_isShown 6 (some .boolean), Cond.methodLink RX2 33 yX2_isShownFrom, Cond.instanceMethod yX2_isShownFrom, Cond.selects RX2 yX2_isShownFrom yX2_isShownFrom, Cond.code yX2_isShownFrom cX2_isShownFrom 5 (some .boolean), Cond.fieldLink RX2 9 "CraneYard$Words" "letters" "[I"]
def wsL_lift : List Cond := .codeWith yL_lift cL_lift 4 (some .int) [(0, 9, 12, 13), (0, 9, 15, 15)] :: ((wsL_lift_r1 ++ (wsL_lift_r2 ++ wsL_lift_r3)) ++ wsX30 ++ wsX10 ++ wsX20 ++ (vx_atS RX3 78 "java/lang/IllegalStateException" ["java/lang/RuntimeException", "java/lang/Exception"]).filter goodWord ++ (vx_atS RX3 64 "java/lang/IllegalArgumentException" ["java/lang/RuntimeException", "java/lang/Exception"]).filter goodWord)
def wsL_drop_r1 : List Cond := [Cond.classLink RL 13 "java/lang/IllegalArgumentException", Cond.classLink RL 15 "java/lang/IllegalStateException", Cond.methodLink RL 21 yX3_drop, Cond.instanceMethod yX3_drop, Cond.selects RX3 yX3_drop yX3_drop, Cond.initialized RX3, Cond.code yX3_drop cX3_drop 2 (some .int), Cond.fieldLink RX3 10 "CraneYard" "stacks" "LCraneYard$Stacks;", Cond.fieldLink RX3 44 "CraneYard" "craneCrate" "I", Cond.methodLink RX3 71 yX3_requireStack, Cond.static yX3_requireStack, Cond.code yX3_requireStack cX3_requireStack 1 none, Cond.classLink RX3 60 "java/lang/IllegalArgumentException", Cond.initialized "java/lang/IllegalArgumentException", Cond.methodLink RX3 104 yX3_requireFullCrane, Cond.instanceMethod yX3_requireFullCrane, Cond.selects RX3 yX3_requireFullCrane yX3_requireFullCrane, Cond.code yX3_requireFullCrane cX3_requireFullCrane 1 none, Cond.classLink RX3 74 "java/lang/IllegalStateException", Cond.initialized "java/lang/IllegalStateException", Cond.methodLink RX3 107 yX1_weightOf, Cond.instanceMethod yX1_weightOf, Cond.selects RX1 yX1_weightOf yX1_weightOf, Cond.initialized RX1]
def wsL_drop_r2 : List Cond := [Cond.code yX1_weightOf cX1_weightOf 2 (some .int), Cond.fieldLink RX1 18 "CraneYard$Stacks" "weights" "[I", Cond.methodLink RX3 79 yX3_requireRoom, Cond.instanceMethod yX3_requireRoom, Cond.selects RX3 yX3_requireRoom yX3_requireRoom, Cond.code yX3_requireRoom cX3_requireRoom 3 none, Cond.methodLink RX3 120 yX3_mostPlaces, Cond.instanceMethod yX3_mostPlaces, Cond.selects RX3 yX3_mostPlaces yX3_mostPlaces, Cond.code yX3_mostPlaces cX3_mostPlaces 1 (some .int), Cond.fieldLink RX3 53 "CraneYard" "stormy" "Z", Cond.methodLink RX3 256 yX1_canTake, Cond.instanceMethod yX1_canTake, Cond.selects RX1 yX1_canTake yX1_canTake, Cond.code yX1_canTake cX1_canTake 5 (some .boolean), Cond.methodLink RX1 27 yX1_heightOf, Cond.instanceMethod yX1_heightOf, Cond.selects RX1 yX1_heightOf yX1_heightOf, Cond.code yX1_heightOf cX1_heightOf 2 (some .int), Cond.fieldLink RX1 9 "CraneYard$Stacks" "heights" "[I", Cond.methodLink RX1 31 yX1_topOf, Cond.instanceMethod yX1_topOf, Cond.selects RX1 yX1_topOf yX1_topOf, Cond.code yX1_topOf cX1_topOf 3 (some .int)]
def wsL_drop_r3 : List Cond := [Cond.fieldLink RX1 15 "CraneYard$Stacks" "cells" "[I", Cond.methodLink RX1 34 yX1_weightOf, Cond.methodLink RX3 86 yX1_put, Cond.instanceMethod yX1_put, Cond.selects RX1 yX1_put yX1_put, Cond.code yX1_put cX1_put 4 none, Cond.methodLink RX3 89 yX3_payWords, Cond.instanceMethod yX3_payWords, Cond.selects RX3 yX3_payWords yX3_payWords, Cond.code yX3_payWords cX3_payWords 4 none, Cond.fieldLink RX3 37 "CraneYard" "lids" "[I", Cond.fieldLink RX3 33 "CraneYard" "letters" "[I", Cond.fieldLink RX3 22 "CraneYard" "words" "LCraneYard$Words;", Cond.methodLink RX3 262 yX1_topOf, Cond.methodLink RX3 265 yX2_payShown, Cond.instanceMethod yX2_payShown, Cond.selects RX2 yX2_payShown yX2_payShown, Cond.initialized RX2, Cond.code yX2_payShown cX2_payShown 4 none, Cond.fieldLink RX2 22 "CraneYard$Words" "count" "I", Cond.fieldLink RX2 18 "CraneYard$Words" "paid" "[Z", Cond.fieldLink RX2 26 "CraneYard$Words" "sum" "I", Cond.fieldLink RX2 15 "CraneYard$Words" "lengths" "[I", Cond.methodLink RX2 29 yX2_isShown]
def wsL_drop_r4 : List Cond := [Cond.instanceMethod yX2_isShown, Cond.selects RX2 yX2_isShown yX2_isShown, Cond.code yX2_isShown cX2_isShown 6 (some .boolean), Cond.methodLink RX2 33 yX2_isShownFrom, Cond.instanceMethod yX2_isShownFrom, Cond.selects RX2 yX2_isShownFrom yX2_isShownFrom, Cond.code yX2_isShownFrom cX2_isShownFrom 5 (some .boolean), Cond.fieldLink RX2 9 "CraneYard$Words" "letters" "[I", Cond.methodLink RX3 95 yX1_heightOf]
def wsL_drop : List Cond := .codeWith yL_drop cL_drop 4 (some .int) [(0, 9, 12, 13), (0, 9, 15, 15)] :: ((wsL_drop_r1 ++ (wsL_drop_r2 ++ (wsL_drop_r3 ++ wsL_drop_r4))) ++ wsX30 ++ wsX10 ++ wsX20 ++ (vx_atS RX3 64 "java/lang/IllegalArgumentException" ["java/lang/RuntimeException", "java/lang/Exception"]).filter goodWord ++ (vx_atS RX3 78 "java/lang/IllegalStateException" ["java/lang/RuntimeException", "java/lang/Exception"]).filter goodWord)
def wsL_dig_r1 : List Cond := [Cond.classLink RL 27 "java/lang/IndexOutOfBoundsException", Cond.classLink RL 15 "java/lang/IllegalStateException", Cond.methodLink RL 24 yX3_dig, Cond.instanceMethod yX3_dig, Cond.selects RX3 yX3_dig yX3_dig, Cond.initialized RX3, Cond.code yX3_dig cX3_dig 3 (some .int), Cond.classLink RX3 74 "java/lang/IllegalStateException", Cond.initialized "java/lang/IllegalStateException", Cond.fieldLink RX3 16 "CraneYard" "trial" "LCraneYard$Stacks;", Cond.fieldLink RX3 10 "CraneYard" "stacks" "LCraneYard$Stacks;", Cond.fieldLink RX3 44 "CraneYard" "craneCrate" "I", Cond.fieldLink RX3 47 "CraneYard" "liftCount" "I", Cond.methodLink RX3 110 yX3_requireCrate, Cond.instanceMethod yX3_requireCrate, Cond.selects RX3 yX3_requireCrate yX3_requireCrate, Cond.code yX3_requireCrate cX3_requireCrate 2 none, Cond.classLink RX3 166 "java/lang/IndexOutOfBoundsException", Cond.initialized "java/lang/IndexOutOfBoundsException", Cond.fieldLink RX3 40 "CraneYard" "crateCount" "I", Cond.methodLink RX3 92 yX3_requireEmptyCrane, Cond.instanceMethod yX3_requireEmptyCrane, Cond.selects RX3 yX3_requireEmptyCrane yX3_requireEmptyCrane, Cond.code yX3_requireEmptyCrane cX3_requireEmptyCrane 1 none]
def wsL_dig_r2 : List Cond := [Cond.methodLink RX3 113 yX3_requireInStack, Cond.instanceMethod yX3_requireInStack, Cond.selects RX3 yX3_requireInStack yX3_requireInStack, Cond.code yX3_requireInStack cX3_requireInStack 2 none, Cond.methodLink RX3 135 yX1_stackHolding, Cond.instanceMethod yX1_stackHolding, Cond.selects RX1 yX1_stackHolding yX1_stackHolding, Cond.initialized RX1, Cond.code yX1_stackHolding cX1_stackHolding 4 (some .int), Cond.fieldLink RX1 9 "CraneYard$Stacks" "heights" "[I", Cond.fieldLink RX1 15 "CraneYard$Stacks" "cells" "[I", Cond.methodLink RX3 116 yX1_copyFrom, Cond.instanceMethod yX1_copyFrom, Cond.selects RX1 yX1_copyFrom yX1_copyFrom, Cond.code yX1_copyFrom cX1_copyFrom 2 none, Cond.methodLink RX1 21 arraycopyName, Cond.native arraycopyName, Cond.static arraycopyName, Cond.initialized "java/lang/System", Cond.fieldLink RX1 18 "CraneYard$Stacks" "weights" "[I", Cond.methodLink RX3 120 yX3_mostPlaces, Cond.instanceMethod yX3_mostPlaces, Cond.selects RX3 yX3_mostPlaces yX3_mostPlaces, Cond.code yX3_mostPlaces cX3_mostPlaces 1 (some .int)]
def wsL_dig_r3 : List Cond := [Cond.fieldLink RX3 53 "CraneYard" "stormy" "Z", Cond.methodLink RX3 124 yX1_digOut, Cond.instanceMethod yX1_digOut, Cond.selects RX1 yX1_digOut yX1_digOut, Cond.code yX1_digOut cX1_digOut 7 (some .int), Cond.methodLink RX1 37 yX1_stackHolding, Cond.methodLink RX1 40 yX1_takeTop, Cond.instanceMethod yX1_takeTop, Cond.selects RX1 yX1_takeTop yX1_takeTop, Cond.code yX1_takeTop cX1_takeTop 3 (some .int), Cond.methodLink RX1 31 yX1_topOf, Cond.instanceMethod yX1_topOf, Cond.selects RX1 yX1_topOf yX1_topOf, Cond.code yX1_topOf cX1_topOf 3 (some .int), Cond.methodLink RX1 27 yX1_heightOf, Cond.instanceMethod yX1_heightOf, Cond.selects RX1 yX1_heightOf yX1_heightOf, Cond.code yX1_heightOf cX1_heightOf 2 (some .int), Cond.methodLink RX1 34 yX1_weightOf, Cond.instanceMethod yX1_weightOf, Cond.selects RX1 yX1_weightOf yX1_weightOf, Cond.code yX1_weightOf cX1_weightOf 2 (some .int), Cond.methodLink RX1 43 yX1_targetFor, Cond.instanceMethod yX1_targetFor]
def wsL_dig_r4 : List Cond := [Cond.selects RX1 yX1_targetFor yX1_targetFor, Cond.code yX1_targetFor cX1_targetFor 6 (some .int), Cond.methodLink RX1 51 yX1_canTake, Cond.instanceMethod yX1_canTake, Cond.selects RX1 yX1_canTake yX1_canTake, Cond.code yX1_canTake cX1_canTake 5 (some .boolean), Cond.methodLink RX1 47 yX1_put, Cond.instanceMethod yX1_put, Cond.selects RX1 yX1_put yX1_put, Cond.code yX1_put cX1_put 4 none, Cond.methodLink RX3 89 yX3_payWords, Cond.instanceMethod yX3_payWords, Cond.selects RX3 yX3_payWords yX3_payWords, Cond.code yX3_payWords cX3_payWords 4 none, Cond.fieldLink RX3 37 "CraneYard" "lids" "[I", Cond.fieldLink RX3 33 "CraneYard" "letters" "[I", Cond.fieldLink RX3 22 "CraneYard" "words" "LCraneYard$Words;", Cond.methodLink RX3 262 yX1_topOf, Cond.methodLink RX3 265 yX2_payShown, Cond.instanceMethod yX2_payShown, Cond.selects RX2 yX2_payShown yX2_payShown, Cond.initialized RX2, Cond.code yX2_payShown cX2_payShown 4 none, Cond.fieldLink RX2 22 "CraneYard$Words" "count" "I"]
def wsL_dig_r5 : List Cond := [Cond.fieldLink RX2 18 "CraneYard$Words" "paid" "[Z", Cond.fieldLink RX2 26 "CraneYard$Words" "sum" "I", Cond.fieldLink RX2 15 "CraneYard$Words" "lengths" "[I", Cond.methodLink RX2 29 yX2_isShown, Cond.instanceMethod yX2_isShown, Cond.selects RX2 yX2_isShown yX2_isShown, Cond.code yX2_isShown cX2_isShown 6 (some .boolean), Cond.methodLink RX2 33 yX2_isShownFrom, Cond.instanceMethod yX2_isShownFrom, Cond.selects RX2 yX2_isShownFrom yX2_isShownFrom, Cond.code yX2_isShownFrom cX2_isShownFrom 5 (some .boolean), Cond.fieldLink RX2 9 "CraneYard$Words" "letters" "[I"]
def wsL_dig : List Cond := .codeWith yL_dig cL_dig 4 (some .int) [(0, 9, 12, 27), (0, 9, 15, 15)] :: ((wsL_dig_r1 ++ (wsL_dig_r2 ++ (wsL_dig_r3 ++ (wsL_dig_r4 ++ wsL_dig_r5)))) ++ wsX30 ++ wsX10 ++ wsX20 ++ (vx_atS RX3 78 "java/lang/IllegalStateException" ["java/lang/RuntimeException", "java/lang/Exception"]).filter goodWord ++ (vx_atS RX3 170 "java/lang/IndexOutOfBoundsException" ["java/lang/RuntimeException", "java/lang/Exception"]).filter goodWord)
def wsL_height : List Cond := .codeWith yL_height cL_height 4 (some .int) [(0, 9, 12, 13)] :: ([.classLink RL 13 "java/lang/IllegalArgumentException", .methodLink RL 29 yX3_height, .instanceMethod yX3_height, .selects RX3 yX3_height yX3_height, .initialized RX3, .code yX3_height cX3_height 2 (some .int), .fieldLink RX3 10 "CraneYard" "stacks" "LCraneYard$Stacks;", .methodLink RX3 71 yX3_requireStack, .static yX3_requireStack, .code yX3_requireStack cX3_requireStack 1 none, .classLink RX3 60 "java/lang/IllegalArgumentException", .initialized "java/lang/IllegalArgumentException", .methodLink RX3 95 yX1_heightOf, .instanceMethod yX1_heightOf, .selects RX1 yX1_heightOf yX1_heightOf, .initialized RX1, .code yX1_heightOf cX1_heightOf 2 (some .int), .fieldLink RX1 9 "CraneYard$Stacks" "heights" "[I"] ++ wsX30 ++ wsX10 ++ (vx_atS RX3 64 "java/lang/IllegalArgumentException" ["java/lang/RuntimeException", "java/lang/Exception"]).filter goodWord)
def wsL_at : List Cond := .codeWith yL_at cL_at 5 (some .int) [(0, 10, 13, 13)] :: ([.classLink RL 13 "java/lang/IllegalArgumentException", .methodLink RL 32 yX3_at, .instanceMethod yX3_at, .selects RX3 yX3_at yX3_at, .initialized RX3, .code yX3_at cX3_at 3 (some .int), .classLink RX3 60 "java/lang/IllegalArgumentException", .initialized "java/lang/IllegalArgumentException", .fieldLink RX3 10 "CraneYard" "stacks" "LCraneYard$Stacks;", .methodLink RX3 71 yX3_requireStack, .static yX3_requireStack, .code yX3_requireStack cX3_requireStack 1 none, .methodLink RX3 132 yX1_crateAt, .instanceMethod yX1_crateAt, .selects RX1 yX1_crateAt yX1_crateAt, .initialized RX1, .code yX1_crateAt cX1_crateAt 3 (some .int), .fieldLink RX1 15 "CraneYard$Stacks" "cells" "[I", .methodLink RX1 27 yX1_heightOf, .instanceMethod yX1_heightOf, .selects RX1 yX1_heightOf yX1_heightOf, .code yX1_heightOf cX1_heightOf 2 (some .int), .fieldLink RX1 9 "CraneYard$Stacks" "heights" "[I"] ++ wsX30 ++ wsX10 ++ (vx_atS RX3 64 "java/lang/IllegalArgumentException" ["java/lang/RuntimeException", "java/lang/Exception"]).filter goodWord)
def wsL_stackOf : List Cond := .codeWith yL_stackOf cL_stackOf 4 (some .int) [(0, 9, 12, 27)] :: ([.classLink RL 27 "java/lang/IndexOutOfBoundsException", .methodLink RL 36 yX3_stackOf, .instanceMethod yX3_stackOf, .selects RX3 yX3_stackOf yX3_stackOf, .initialized RX3, .code yX3_stackOf cX3_stackOf 2 (some .int), .fieldLink RX3 10 "CraneYard" "stacks" "LCraneYard$Stacks;", .methodLink RX3 110 yX3_requireCrate, .instanceMethod yX3_requireCrate, .selects RX3 yX3_requireCrate yX3_requireCrate, .code yX3_requireCrate cX3_requireCrate 2 none, .classLink RX3 166 "java/lang/IndexOutOfBoundsException", .initialized "java/lang/IndexOutOfBoundsException", .fieldLink RX3 40 "CraneYard" "crateCount" "I", .methodLink RX3 135 yX1_stackHolding, .instanceMethod yX1_stackHolding, .selects RX1 yX1_stackHolding yX1_stackHolding, .initialized RX1, .code yX1_stackHolding cX1_stackHolding 4 (some .int), .fieldLink RX1 9 "CraneYard$Stacks" "heights" "[I", .fieldLink RX1 15 "CraneYard$Stacks" "cells" "[I"] ++ wsX30 ++ wsX10 ++ (vx_atS RX3 170 "java/lang/IndexOutOfBoundsException" ["java/lang/RuntimeException", "java/lang/Exception"]).filter goodWord)
def wsL_fewestLifts_r1 : List Cond := [Cond.classLink RL 13 "java/lang/IllegalArgumentException", Cond.classLink RL 15 "java/lang/IllegalStateException", Cond.methodLink RL 39 yX3_fewestLifts, Cond.instanceMethod yX3_fewestLifts, Cond.selects RX3 yX3_fewestLifts yX3_fewestLifts, Cond.initialized RX3, Cond.code yX3_fewestLifts cX3_fewestLifts 6 (some .int), Cond.classLink RX3 60 "java/lang/IllegalArgumentException", Cond.initialized "java/lang/IllegalArgumentException", Cond.methodLink RX3 138 yX3_areInStacks, Cond.instanceMethod yX3_areInStacks, Cond.selects RX3 yX3_areInStacks yX3_areInStacks, Cond.code yX3_areInStacks cX3_areInStacks 4 (some .boolean), Cond.fieldLink RX3 10 "CraneYard" "stacks" "LCraneYard$Stacks;", Cond.methodLink RX3 144 yJ6_bitCount_0f7a4, Cond.static yJ6_bitCount_0f7a4, Cond.initialized RJ6, Cond.code yJ6_bitCount_0f7a4 cJ6_bitCount_0f7a4 1 (some .int), Cond.constant RJ6 265 (1431655765), Cond.constant RJ6 266 (858993459), Cond.constant RJ6 267 (252645135), Cond.methodLink RX3 274 yX3_contains, Cond.static yX3_contains, Cond.code yX3_contains cX3_contains 2 (some .boolean)]
def wsL_fewestLifts_r2 : List Cond := [Cond.methodLink RX3 135 yX1_stackHolding, Cond.instanceMethod yX1_stackHolding, Cond.selects RX1 yX1_stackHolding yX1_stackHolding, Cond.initialized RX1, Cond.code yX1_stackHolding cX1_stackHolding 4 (some .int), Cond.fieldLink RX1 9 "CraneYard$Stacks" "heights" "[I", Cond.fieldLink RX1 15 "CraneYard$Stacks" "cells" "[I", Cond.methodLink RX3 92 yX3_requireEmptyCrane, Cond.instanceMethod yX3_requireEmptyCrane, Cond.selects RX3 yX3_requireEmptyCrane yX3_requireEmptyCrane, Cond.code yX3_requireEmptyCrane cX3_requireEmptyCrane 1 none, Cond.classLink RX3 74 "java/lang/IllegalStateException", Cond.initialized "java/lang/IllegalStateException", Cond.fieldLink RX3 44 "CraneYard" "craneCrate" "I", Cond.methodLink RX3 149 yX3_ordersOf, Cond.static yX3_ordersOf, Cond.code yX3_ordersOf cX3_ordersOf 3 (some .int), Cond.methodLink RX3 152 yX3_liftsInOrder, Cond.instanceMethod yX3_liftsInOrder, Cond.selects RX3 yX3_liftsInOrder yX3_liftsInOrder, Cond.code yX3_liftsInOrder cX3_liftsInOrder 9 (some .int), Cond.fieldLink RX3 16 "CraneYard" "trial" "LCraneYard$Stacks;", Cond.methodLink RX3 116 yX1_copyFrom, Cond.instanceMethod yX1_copyFrom]
def wsL_fewestLifts_r3 : List Cond := [Cond.selects RX1 yX1_copyFrom yX1_copyFrom, Cond.code yX1_copyFrom cX1_copyFrom 2 none, Cond.methodLink RX1 21 arraycopyName, Cond.native arraycopyName, Cond.static arraycopyName, Cond.initialized "java/lang/System", Cond.fieldLink RX1 18 "CraneYard$Stacks" "weights" "[I", Cond.methodLink RX3 278 yX3_memberOf, Cond.static yX3_memberOf, Cond.code yX3_memberOf cX3_memberOf 4 (some .int), Cond.methodLink RX3 120 yX3_mostPlaces, Cond.instanceMethod yX3_mostPlaces, Cond.selects RX3 yX3_mostPlaces yX3_mostPlaces, Cond.code yX3_mostPlaces cX3_mostPlaces 1 (some .int), Cond.fieldLink RX3 53 "CraneYard" "stormy" "Z", Cond.methodLink RX3 124 yX1_digOut, Cond.instanceMethod yX1_digOut, Cond.selects RX1 yX1_digOut yX1_digOut, Cond.code yX1_digOut cX1_digOut 7 (some .int), Cond.methodLink RX1 37 yX1_stackHolding, Cond.methodLink RX1 40 yX1_takeTop, Cond.instanceMethod yX1_takeTop, Cond.selects RX1 yX1_takeTop yX1_takeTop, Cond.code yX1_takeTop cX1_takeTop 3 (some .int)]
def wsL_fewestLifts_r4 : List Cond := [Cond.methodLink RX1 31 yX1_topOf, Cond.instanceMethod yX1_topOf, Cond.selects RX1 yX1_topOf yX1_topOf, Cond.code yX1_topOf cX1_topOf 3 (some .int), Cond.methodLink RX1 27 yX1_heightOf, Cond.instanceMethod yX1_heightOf, Cond.selects RX1 yX1_heightOf yX1_heightOf, Cond.code yX1_heightOf cX1_heightOf 2 (some .int), Cond.methodLink RX1 34 yX1_weightOf, Cond.instanceMethod yX1_weightOf, Cond.selects RX1 yX1_weightOf yX1_weightOf, Cond.code yX1_weightOf cX1_weightOf 2 (some .int), Cond.methodLink RX1 43 yX1_targetFor, Cond.instanceMethod yX1_targetFor, Cond.selects RX1 yX1_targetFor yX1_targetFor, Cond.code yX1_targetFor cX1_targetFor 6 (some .int), Cond.methodLink RX1 51 yX1_canTake, Cond.instanceMethod yX1_canTake, Cond.selects RX1 yX1_canTake yX1_canTake, Cond.code yX1_canTake cX1_canTake 5 (some .boolean), Cond.methodLink RX1 47 yX1_put, Cond.instanceMethod yX1_put, Cond.selects RX1 yX1_put yX1_put, Cond.code yX1_put cX1_put 4 none]
def wsL_fewestLifts : List Cond := .codeWith yL_fewestLifts cL_fewestLifts 4 (some .int) [(0, 9, 12, 13), (0, 9, 15, 15)] :: ((wsL_fewestLifts_r1 ++ (wsL_fewestLifts_r2 ++ (wsL_fewestLifts_r3 ++ wsL_fewestLifts_r4))) ++ wsX30 ++ wsX10 ++ (vx_atS RX3 64 "java/lang/IllegalArgumentException" ["java/lang/RuntimeException", "java/lang/Exception"]).filter goodWord ++ (vx_atS RX3 78 "java/lang/IllegalStateException" ["java/lang/RuntimeException", "java/lang/Exception"]).filter goodWord)
def wsL_tell_r1 : List Cond := [Cond.classLink RL 13 "java/lang/IllegalArgumentException", Cond.classLink RL 15 "java/lang/IllegalStateException", Cond.methodLink RL 42 yX3_tell, Cond.instanceMethod yX3_tell, Cond.selects RX3 yX3_tell yX3_tell, Cond.initialized RX3, Cond.code yX3_tell cX3_tell 6 (some .int), Cond.classLink RX3 60 "java/lang/IllegalArgumentException", Cond.initialized "java/lang/IllegalArgumentException", Cond.classLink RX3 74 "java/lang/IllegalStateException", Cond.initialized "java/lang/IllegalStateException", Cond.fieldLink RX3 22 "CraneYard" "words" "LCraneYard$Words;", Cond.methodLink RX3 67 yX3_requireLetter, Cond.static yX3_requireLetter, Cond.code yX3_requireLetter cX3_requireLetter 1 none, Cond.methodLink RX3 157 yX2_number, Cond.instanceMethod yX2_number, Cond.selects RX2 yX2_number yX2_number, Cond.initialized RX2, Cond.code yX2_number cX2_number 1 (some .int), Cond.fieldLink RX2 22 "CraneYard$Words" "count" "I", Cond.methodLink RX3 162 yX2_add, Cond.instanceMethod yX2_add, Cond.selects RX2 yX2_add yX2_add]
def wsL_tell_r2 : List Cond := [Cond.code yX2_add cX2_add 7 (some .int), Cond.fieldLink RX2 9 "CraneYard$Words" "letters" "[I", Cond.fieldLink RX2 15 "CraneYard$Words" "lengths" "[I", Cond.methodLink RX3 89 yX3_payWords, Cond.instanceMethod yX3_payWords, Cond.selects RX3 yX3_payWords yX3_payWords, Cond.code yX3_payWords cX3_payWords 4 none, Cond.fieldLink RX3 10 "CraneYard" "stacks" "LCraneYard$Stacks;", Cond.fieldLink RX3 37 "CraneYard" "lids" "[I", Cond.fieldLink RX3 33 "CraneYard" "letters" "[I", Cond.methodLink RX3 262 yX1_topOf, Cond.instanceMethod yX1_topOf, Cond.selects RX1 yX1_topOf yX1_topOf, Cond.initialized RX1, Cond.code yX1_topOf cX1_topOf 3 (some .int), Cond.fieldLink RX1 15 "CraneYard$Stacks" "cells" "[I", Cond.methodLink RX1 27 yX1_heightOf, Cond.instanceMethod yX1_heightOf, Cond.selects RX1 yX1_heightOf yX1_heightOf, Cond.code yX1_heightOf cX1_heightOf 2 (some .int), Cond.fieldLink RX1 9 "CraneYard$Stacks" "heights" "[I", Cond.methodLink RX3 265 yX2_payShown, Cond.instanceMethod yX2_payShown, Cond.selects RX2 yX2_payShown yX2_payShown]
def wsL_tell_r3 : List Cond := [Cond.code yX2_payShown cX2_payShown 4 none, Cond.fieldLink RX2 18 "CraneYard$Words" "paid" "[Z", Cond.fieldLink RX2 26 "CraneYard$Words" "sum" "I", Cond.methodLink RX2 29 yX2_isShown, Cond.instanceMethod yX2_isShown, Cond.selects RX2 yX2_isShown yX2_isShown, Cond.code yX2_isShown cX2_isShown 6 (some .boolean), Cond.methodLink RX2 33 yX2_isShownFrom, Cond.instanceMethod yX2_isShownFrom, Cond.selects RX2 yX2_isShownFrom yX2_isShownFrom, Cond.code yX2_isShownFrom cX2_isShownFrom 5 (some .boolean)]
def wsL_tell : List Cond := .codeWith yL_tell cL_tell 7 (some .int) [(0, 14, 17, 13), (0, 14, 21, 15)] :: ((wsL_tell_r1 ++ (wsL_tell_r2 ++ wsL_tell_r3)) ++ wsX30 ++ wsX20 ++ wsX10 ++ (vx_atS RX3 64 "java/lang/IllegalArgumentException" ["java/lang/RuntimeException", "java/lang/Exception"]).filter goodWord ++ (vx_atS RX3 78 "java/lang/IllegalStateException" ["java/lang/RuntimeException", "java/lang/Exception"]).filter goodWord)
def wsL_hasPaid : List Cond := .codeWith yL_hasPaid cL_hasPaid 4 (some .int) [(0, 16, 19, 27)] :: ([.classLink RL 27 "java/lang/IndexOutOfBoundsException", .methodLink RL 46 yX3_hasPaid, .instanceMethod yX3_hasPaid, .selects RX3 yX3_hasPaid yX3_hasPaid, .initialized RX3, .code yX3_hasPaid cX3_hasPaid 2 (some .boolean), .classLink RX3 166 "java/lang/IndexOutOfBoundsException", .initialized "java/lang/IndexOutOfBoundsException", .fieldLink RX3 22 "CraneYard" "words" "LCraneYard$Words;", .methodLink RX3 157 yX2_number, .instanceMethod yX2_number, .selects RX2 yX2_number yX2_number, .initialized RX2, .code yX2_number cX2_number 1 (some .int), .fieldLink RX2 22 "CraneYard$Words" "count" "I", .methodLink RX3 171 yX2_isPaid, .instanceMethod yX2_isPaid, .selects RX2 yX2_isPaid yX2_isPaid, .code yX2_isPaid cX2_isPaid 2 (some .boolean), .fieldLink RX2 18 "CraneYard$Words" "paid" "[Z"] ++ wsX30 ++ wsX20 ++ (vx_atS RX3 170 "java/lang/IndexOutOfBoundsException" ["java/lang/RuntimeException", "java/lang/Exception"]).filter goodWord)
def wsL_offer_r1 : List Cond := [Cond.classLink RL 27 "java/lang/IndexOutOfBoundsException", Cond.classLink RL 13 "java/lang/IllegalArgumentException", Cond.classLink RL 15 "java/lang/IllegalStateException", Cond.methodLink RL 50 yX3_offer, Cond.instanceMethod yX3_offer, Cond.selects RX3 yX3_offer yX3_offer, Cond.initialized RX3, Cond.code yX3_offer cX3_offer 3 (some .int), Cond.classLink RX3 60 "java/lang/IllegalArgumentException", Cond.initialized "java/lang/IllegalArgumentException", Cond.classLink RX3 74 "java/lang/IllegalStateException", Cond.initialized "java/lang/IllegalStateException", Cond.fieldLink RX3 50 "CraneYard" "day" "I", Cond.fieldLink RX3 29 "CraneYard" "hauls" "LCraneYard$Hauls;", Cond.methodLink RX3 110 yX3_requireCrate, Cond.instanceMethod yX3_requireCrate, Cond.selects RX3 yX3_requireCrate yX3_requireCrate, Cond.code yX3_requireCrate cX3_requireCrate 2 none, Cond.classLink RX3 166 "java/lang/IndexOutOfBoundsException", Cond.initialized "java/lang/IndexOutOfBoundsException", Cond.fieldLink RX3 40 "CraneYard" "crateCount" "I", Cond.methodLink RX3 113 yX3_requireInStack, Cond.instanceMethod yX3_requireInStack, Cond.selects RX3 yX3_requireInStack yX3_requireInStack]
def wsL_offer_r2 : List Cond := [Cond.code yX3_requireInStack cX3_requireInStack 2 none, Cond.fieldLink RX3 10 "CraneYard" "stacks" "LCraneYard$Stacks;", Cond.methodLink RX3 135 yX1_stackHolding, Cond.instanceMethod yX1_stackHolding, Cond.selects RX1 yX1_stackHolding yX1_stackHolding, Cond.initialized RX1, Cond.code yX1_stackHolding cX1_stackHolding 4 (some .int), Cond.fieldLink RX1 9 "CraneYard$Stacks" "heights" "[I", Cond.fieldLink RX1 15 "CraneYard$Stacks" "cells" "[I", Cond.methodLink RX3 179 yX0_openHaulOf, Cond.instanceMethod yX0_openHaulOf, Cond.selects RX0 yX0_openHaulOf yX0_openHaulOf, Cond.initialized RX0, Cond.code yX0_openHaulOf cX0_openHaulOf 3 (some .int), Cond.fieldLink RX0 27 "CraneYard$Hauls" "count" "I", Cond.fieldLink RX0 9 "CraneYard$Hauls" "crates" "[I", Cond.methodLink RX0 41 yX0_isOpen, Cond.instanceMethod yX0_isOpen, Cond.selects RX0 yX0_isOpen yX0_isOpen, Cond.code yX0_isOpen cX0_isOpen 3 (some .boolean), Cond.methodLink RX0 37 yX0_stateOf, Cond.instanceMethod yX0_stateOf, Cond.selects RX0 yX0_stateOf yX0_stateOf, Cond.code yX0_stateOf cX0_stateOf 2 (some .int)]
def wsL_offer_r3 : List Cond := [Cond.fieldLink RX0 18 "CraneYard$Hauls" "states" "[I", Cond.methodLink RX3 184 yX0_number, Cond.instanceMethod yX0_number, Cond.selects RX0 yX0_number yX0_number, Cond.code yX0_number cX0_number 1 (some .int), Cond.methodLink RX3 187 yX0_add, Cond.instanceMethod yX0_add, Cond.selects RX0 yX0_add yX0_add, Cond.code yX0_add cX0_add 4 (some .int), Cond.fieldLink RX0 15 "CraneYard$Hauls" "lastDays" "[I"]
def wsL_offer : List Cond := .codeWith yL_offer cL_offer 5 (some .int) [(0, 10, 13, 27), (0, 10, 17, 13), (0, 10, 21, 15)] :: ((wsL_offer_r1 ++ (wsL_offer_r2 ++ wsL_offer_r3)) ++ wsX30 ++ wsX10 ++ wsX00 ++ (vx_atS RX3 64 "java/lang/IllegalArgumentException" ["java/lang/RuntimeException", "java/lang/Exception"]).filter goodWord ++ (vx_atS RX3 78 "java/lang/IllegalStateException" ["java/lang/RuntimeException", "java/lang/Exception"]).filter goodWord ++ (vx_atS RX3 170 "java/lang/IndexOutOfBoundsException" ["java/lang/RuntimeException", "java/lang/Exception"]).filter goodWord)
def wsL_bid_r1 : List Cond := [Cond.classLink RL 27 "java/lang/IndexOutOfBoundsException", Cond.classLink RL 13 "java/lang/IllegalArgumentException", Cond.classLink RL 15 "java/lang/IllegalStateException", Cond.methodLink RL 53 yX3_bid, Cond.instanceMethod yX3_bid, Cond.selects RX3 yX3_bid yX3_bid, Cond.initialized RX3, Cond.code yX3_bid cX3_bid 4 none, Cond.classLink RX3 60 "java/lang/IllegalArgumentException", Cond.initialized "java/lang/IllegalArgumentException", Cond.classLink RX3 74 "java/lang/IllegalStateException", Cond.initialized "java/lang/IllegalStateException", Cond.fieldLink RX3 29 "CraneYard" "hauls" "LCraneYard$Hauls;", Cond.methodLink RX3 189 yX3_requireHaul, Cond.instanceMethod yX3_requireHaul, Cond.selects RX3 yX3_requireHaul yX3_requireHaul, Cond.code yX3_requireHaul cX3_requireHaul 2 none, Cond.classLink RX3 166 "java/lang/IndexOutOfBoundsException", Cond.initialized "java/lang/IndexOutOfBoundsException", Cond.methodLink RX3 184 yX0_number, Cond.instanceMethod yX0_number, Cond.selects RX0 yX0_number yX0_number, Cond.initialized RX0, Cond.code yX0_number cX0_number 1 (some .int)]
def wsL_bid_r2 : List Cond := [Cond.fieldLink RX0 27 "CraneYard$Hauls" "count" "I", Cond.methodLink RX3 196 yX3_requireOffered, Cond.instanceMethod yX3_requireOffered, Cond.selects RX3 yX3_requireOffered yX3_requireOffered, Cond.code yX3_requireOffered cX3_requireOffered 2 none, Cond.methodLink RX3 216 yX0_stateOf, Cond.instanceMethod yX0_stateOf, Cond.selects RX0 yX0_stateOf yX0_stateOf, Cond.code yX0_stateOf cX0_stateOf 2 (some .int), Cond.fieldLink RX0 18 "CraneYard$Hauls" "states" "[I", Cond.methodLink RX3 199 yX0_priceAsked, Cond.instanceMethod yX0_priceAsked, Cond.selects RX0 yX0_priceAsked yX0_priceAsked, Cond.code yX0_priceAsked cX0_priceAsked 3 (some .int), Cond.fieldLink RX0 24 "CraneYard$Hauls" "bids" "[I", Cond.methodLink RX0 45 yX0_isPlaceForBid, Cond.instanceMethod yX0_isPlaceForBid, Cond.selects RX0 yX0_isPlaceForBid yX0_isPlaceForBid, Cond.code yX0_isPlaceForBid cX0_isPlaceForBid 3 (some .boolean), Cond.methodLink RX3 204 yX0_enterBid, Cond.instanceMethod yX0_enterBid, Cond.selects RX0 yX0_enterBid yX0_enterBid, Cond.code yX0_enterBid cX0_enterBid 4 none]
def wsL_bid : List Cond := .codeWith yL_bid cL_bid 5 (some .int) [(0, 7, 10, 27), (0, 7, 14, 13), (0, 7, 18, 15)] :: ((wsL_bid_r1 ++ wsL_bid_r2) ++ wsX30 ++ wsX00 ++ (vx_atS RX3 64 "java/lang/IllegalArgumentException" ["java/lang/RuntimeException", "java/lang/Exception"]).filter goodWord ++ (vx_atS RX3 78 "java/lang/IllegalStateException" ["java/lang/RuntimeException", "java/lang/Exception"]).filter goodWord ++ (vx_atS RX3 170 "java/lang/IndexOutOfBoundsException" ["java/lang/RuntimeException", "java/lang/Exception"]).filter goodWord)
def wsL_give_r1 : List Cond := [Cond.classLink RL 27 "java/lang/IndexOutOfBoundsException", Cond.classLink RL 15 "java/lang/IllegalStateException", Cond.methodLink RL 57 yX3_give, Cond.instanceMethod yX3_give, Cond.selects RX3 yX3_give yX3_give, Cond.initialized RX3, Cond.code yX3_give cX3_give 3 (some .int), Cond.classLink RX3 74 "java/lang/IllegalStateException", Cond.initialized "java/lang/IllegalStateException", Cond.fieldLink RX3 29 "CraneYard" "hauls" "LCraneYard$Hauls;", Cond.methodLink RX3 189 yX3_requireHaul, Cond.instanceMethod yX3_requireHaul, Cond.selects RX3 yX3_requireHaul yX3_requireHaul, Cond.code yX3_requireHaul cX3_requireHaul 2 none, Cond.classLink RX3 166 "java/lang/IndexOutOfBoundsException", Cond.initialized "java/lang/IndexOutOfBoundsException", Cond.methodLink RX3 184 yX0_number, Cond.instanceMethod yX0_number, Cond.selects RX0 yX0_number yX0_number, Cond.initialized RX0, Cond.code yX0_number cX0_number 1 (some .int), Cond.fieldLink RX0 27 "CraneYard$Hauls" "count" "I", Cond.methodLink RX3 196 yX3_requireOffered, Cond.instanceMethod yX3_requireOffered]
def wsL_give_r2 : List Cond := [Cond.selects RX3 yX3_requireOffered yX3_requireOffered, Cond.code yX3_requireOffered cX3_requireOffered 2 none, Cond.methodLink RX3 216 yX0_stateOf, Cond.instanceMethod yX0_stateOf, Cond.selects RX0 yX0_stateOf yX0_stateOf, Cond.code yX0_stateOf cX0_stateOf 2 (some .int), Cond.fieldLink RX0 18 "CraneYard$Hauls" "states" "[I", Cond.methodLink RX3 208 yX0_cheapestHaulier, Cond.instanceMethod yX0_cheapestHaulier, Cond.selects RX0 yX0_cheapestHaulier yX0_cheapestHaulier, Cond.code yX0_cheapestHaulier cX0_cheapestHaulier 5 (some .int), Cond.methodLink RX0 49 yX0_priceAsked, Cond.instanceMethod yX0_priceAsked, Cond.selects RX0 yX0_priceAsked yX0_priceAsked, Cond.code yX0_priceAsked cX0_priceAsked 3 (some .int), Cond.fieldLink RX0 24 "CraneYard$Hauls" "bids" "[I", Cond.methodLink RX0 45 yX0_isPlaceForBid, Cond.instanceMethod yX0_isPlaceForBid, Cond.selects RX0 yX0_isPlaceForBid yX0_isPlaceForBid, Cond.code yX0_isPlaceForBid cX0_isPlaceForBid 3 (some .boolean), Cond.methodLink RX3 213 yX0_giveTo, Cond.instanceMethod yX0_giveTo, Cond.selects RX0 yX0_giveTo yX0_giveTo, Cond.code yX0_giveTo cX0_giveTo 3 none]
def wsL_give_r3 : List Cond := [Cond.fieldLink RX0 21 "CraneYard$Hauls" "prices" "[I"]
def wsL_give : List Cond := .codeWith yL_give cL_give 4 (some .int) [(0, 9, 12, 27), (0, 9, 15, 15)] :: ((wsL_give_r1 ++ (wsL_give_r2 ++ wsL_give_r3)) ++ wsX30 ++ wsX00 ++ (vx_atS RX3 78 "java/lang/IllegalStateException" ["java/lang/RuntimeException", "java/lang/Exception"]).filter goodWord ++ (vx_atS RX3 170 "java/lang/IndexOutOfBoundsException" ["java/lang/RuntimeException", "java/lang/Exception"]).filter goodWord)
def wsL_load_r1 : List Cond := [Cond.classLink RL 15 "java/lang/IllegalStateException", Cond.methodLink RL 60 yX3_load, Cond.instanceMethod yX3_load, Cond.selects RX3 yX3_load yX3_load, Cond.initialized RX3, Cond.code yX3_load cX3_load 2 (some .int), Cond.classLink RX3 74 "java/lang/IllegalStateException", Cond.initialized "java/lang/IllegalStateException", Cond.fieldLink RX3 29 "CraneYard" "hauls" "LCraneYard$Hauls;", Cond.fieldLink RX3 44 "CraneYard" "craneCrate" "I", Cond.methodLink RX3 104 yX3_requireFullCrane, Cond.instanceMethod yX3_requireFullCrane, Cond.selects RX3 yX3_requireFullCrane yX3_requireFullCrane, Cond.code yX3_requireFullCrane cX3_requireFullCrane 1 none, Cond.methodLink RX3 179 yX0_openHaulOf, Cond.instanceMethod yX0_openHaulOf, Cond.selects RX0 yX0_openHaulOf yX0_openHaulOf, Cond.initialized RX0, Cond.code yX0_openHaulOf cX0_openHaulOf 3 (some .int), Cond.fieldLink RX0 27 "CraneYard$Hauls" "count" "I", Cond.fieldLink RX0 9 "CraneYard$Hauls" "crates" "[I", Cond.methodLink RX0 41 yX0_isOpen, Cond.instanceMethod yX0_isOpen, Cond.selects RX0 yX0_isOpen yX0_isOpen]
def wsL_load_r2 : List Cond := [Cond.code yX0_isOpen cX0_isOpen 3 (some .boolean), Cond.methodLink RX0 37 yX0_stateOf, Cond.instanceMethod yX0_stateOf, Cond.selects RX0 yX0_stateOf yX0_stateOf, Cond.code yX0_stateOf cX0_stateOf 2 (some .int), Cond.fieldLink RX0 18 "CraneYard$Hauls" "states" "[I", Cond.methodLink RX3 216 yX0_stateOf, Cond.methodLink RX3 221 yX0_finish, Cond.instanceMethod yX0_finish, Cond.selects RX0 yX0_finish yX0_finish, Cond.code yX0_finish cX0_finish 2 (some .int), Cond.fieldLink RX0 31 "CraneYard$Hauls" "pricesPaid" "I", Cond.fieldLink RX0 21 "CraneYard$Hauls" "prices" "[I"]
def wsL_load : List Cond := .codeWith yL_load cL_load 3 (some .int) [(0, 8, 11, 15)] :: ((wsL_load_r1 ++ wsL_load_r2) ++ wsX30 ++ wsX00 ++ (vx_atS RX3 78 "java/lang/IllegalStateException" ["java/lang/RuntimeException", "java/lang/Exception"]).filter goodWord)
def wsL_state : List Cond := .codeWith yL_state cL_state 4 (some .int) [(0, 9, 12, 27)] :: ([.classLink RL 27 "java/lang/IndexOutOfBoundsException", .methodLink RL 64 yX3_state, .instanceMethod yX3_state, .selects RX3 yX3_state yX3_state, .initialized RX3, .code yX3_state cX3_state 2 (some .int), .fieldLink RX3 29 "CraneYard" "hauls" "LCraneYard$Hauls;", .methodLink RX3 189 yX3_requireHaul, .instanceMethod yX3_requireHaul, .selects RX3 yX3_requireHaul yX3_requireHaul, .code yX3_requireHaul cX3_requireHaul 2 none, .classLink RX3 166 "java/lang/IndexOutOfBoundsException", .initialized "java/lang/IndexOutOfBoundsException", .methodLink RX3 184 yX0_number, .instanceMethod yX0_number, .selects RX0 yX0_number yX0_number, .initialized RX0, .code yX0_number cX0_number 1 (some .int), .fieldLink RX0 27 "CraneYard$Hauls" "count" "I", .methodLink RX3 216 yX0_stateOf, .instanceMethod yX0_stateOf, .selects RX0 yX0_stateOf yX0_stateOf, .code yX0_stateOf cX0_stateOf 2 (some .int), .fieldLink RX0 18 "CraneYard$Hauls" "states" "[I"] ++ wsX30 ++ wsX00 ++ (vx_atS RX3 170 "java/lang/IndexOutOfBoundsException" ["java/lang/RuntimeException", "java/lang/Exception"]).filter goodWord)
def wsL_pass_r1 : List Cond := [Cond.classLink RL 13 "java/lang/IllegalArgumentException", Cond.classLink RL 15 "java/lang/IllegalStateException", Cond.methodLink RL 67 yX3_pass, Cond.instanceMethod yX3_pass, Cond.selects RX3 yX3_pass yX3_pass, Cond.initialized RX3, Cond.code yX3_pass cX3_pass 4 (some .int), Cond.classLink RX3 60 "java/lang/IllegalArgumentException", Cond.initialized "java/lang/IllegalArgumentException", Cond.classLink RX3 74 "java/lang/IllegalStateException", Cond.initialized "java/lang/IllegalStateException", Cond.fieldLink RX3 50 "CraneYard" "day" "I", Cond.fieldLink RX3 57 "CraneYard" "fees" "I", Cond.methodLink RX3 231 yX3_endDay, Cond.instanceMethod yX3_endDay, Cond.selects RX3 yX3_endDay yX3_endDay, Cond.code yX3_endDay cX3_endDay 1 none, Cond.fieldLink RX3 10 "CraneYard" "stacks" "LCraneYard$Stacks;", Cond.fieldLink RX3 29 "CraneYard" "hauls" "LCraneYard$Hauls;", Cond.fieldLink RX3 53 "CraneYard" "stormy" "Z", Cond.methodLink RX3 269 yX1_feeOfOneDay, Cond.instanceMethod yX1_feeOfOneDay, Cond.selects RX1 yX1_feeOfOneDay yX1_feeOfOneDay, Cond.initialized RX1]
def wsL_pass_r2 : List Cond := [Cond.code yX1_feeOfOneDay cX1_feeOfOneDay 3 (some .int), Cond.fieldLink RX1 9 "CraneYard$Stacks" "heights" "[I", Cond.methodLink RX3 272 yX0_endDay, Cond.instanceMethod yX0_endDay, Cond.selects RX0 yX0_endDay yX0_endDay, Cond.initialized RX0, Cond.code yX0_endDay cX0_endDay 3 none, Cond.fieldLink RX0 27 "CraneYard$Hauls" "count" "I", Cond.fieldLink RX0 15 "CraneYard$Hauls" "lastDays" "[I", Cond.fieldLink RX0 18 "CraneYard$Hauls" "states" "[I", Cond.fieldLink RX0 34 "CraneYard$Hauls" "owed" "I", Cond.methodLink RX0 41 yX0_isOpen, Cond.instanceMethod yX0_isOpen, Cond.selects RX0 yX0_isOpen yX0_isOpen, Cond.code yX0_isOpen cX0_isOpen 3 (some .boolean), Cond.methodLink RX0 37 yX0_stateOf, Cond.instanceMethod yX0_stateOf, Cond.selects RX0 yX0_stateOf yX0_stateOf, Cond.code yX0_stateOf cX0_stateOf 2 (some .int)]
def wsL_pass : List Cond := .codeWith yL_pass cL_pass 4 (some .int) [(0, 9, 12, 13), (0, 9, 15, 15)] :: ((wsL_pass_r1 ++ wsL_pass_r2) ++ wsX30 ++ wsX10 ++ wsX00 ++ (vx_atS RX3 64 "java/lang/IllegalArgumentException" ["java/lang/RuntimeException", "java/lang/Exception"]).filter goodWord ++ (vx_atS RX3 78 "java/lang/IllegalStateException" ["java/lang/RuntimeException", "java/lang/Exception"]).filter goodWord)
set_option maxRecDepth 20000 in
theorem ggX0_isOpen_X0_stateOf : GoodIn wsX0_isOpen wsX0_stateOf := goodIn_r _ [5, 6, 7, 8, 9, 10, 11, 12, 13, 14, 15] (by decide +kernel) (by decide +kernel)
set_option maxRecDepth 20000 in
theorem gX0_isOpen_X0_stateOf : GoodIn wsX0_isOpen (wsV RX0 37 RX0 yX0_stateOf wsX0_stateOf) := goodIn_app (goodIn_of _ (by decide +kernel)) ggX0_isOpen_X0_stateOf
set_option maxRecDepth 20000 in
theorem ggX0_openHaulOf_X0_isOpen : GoodIn wsX0_openHaulOf wsX0_isOpen := goodIn_r _ [7, 8, 9, 10, 6, 11, 1, 12, 13, 14, 15, 16, 17, 18, 19, 20] (by decide +kernel) (by decide +kernel)
set_option maxRecDepth 20000 in
theorem gX0_openHaulOf_X0_isOpen : GoodIn wsX0_openHaulOf (wsV RX0 41 RX0 yX0_isOpen wsX0_isOpen) := goodIn_app (goodIn_of _ (by decide +kernel)) ggX0_openHaulOf_X0_isOpen
set_option maxRecDepth 20000 in
theorem ggX0_priceAsked_X0_isPlaceForBid : GoodIn wsX0_priceAsked wsX0_isPlaceForBid := goodIn_r _ [6, 7, 8, 9, 10, 11, 12, 13, 14, 15] (by decide +kernel) (by decide +kernel)
set_option maxRecDepth 20000 in
theorem gX0_priceAsked_X0_isPlaceForBid : GoodIn wsX0_priceAsked (wsV RX0 45 RX0 yX0_isPlaceForBid wsX0_isPlaceForBid) := goodIn_app (goodIn_of _ (by decide +kernel)) ggX0_priceAsked_X0_isPlaceForBid
set_option maxRecDepth 20000 in
theorem ggX0_enterBid_X0_isPlaceForBid : GoodIn wsX0_enterBid wsX0_isPlaceForBid := goodIn_r _ [6, 7, 8, 9, 10, 11, 12, 13, 14, 15] (by decide +kernel) (by decide +kernel)
set_option maxRecDepth 20000 in
theorem gX0_enterBid_X0_isPlaceForBid : GoodIn wsX0_enterBid (wsV RX0 45 RX0 yX0_isPlaceForBid wsX0_isPlaceForBid) := goodIn_app (goodIn_of _ (by decide +kernel)) ggX0_enterBid_X0_isPlaceForBid
set_option maxRecDepth 20000 in
theorem ggX0_cheapestHaulier_X0_priceAsked : GoodIn wsX0_cheapestHaulier wsX0_priceAsked := goodIn_r _ [5, 6, 7, 8, 9, 4, 10, 11, 12, 13, 14, 15, 16, 17, 18, 19] (by decide +kernel) (by decide +kernel)
set_option maxRecDepth 20000 in
theorem gX0_cheapestHaulier_X0_priceAsked : GoodIn wsX0_cheapestHaulier (wsV RX0 49 RX0 yX0_priceAsked wsX0_priceAsked) := goodIn_app (goodIn_of _ (by decide +kernel)) ggX0_cheapestHaulier_X0_priceAsked
set_option maxRecDepth 20000 in
theorem ggX0_giveTo_X0_isPlaceForBid : GoodIn wsX0_giveTo wsX0_isPlaceForBid := goodIn_r _ [7, 8, 14, 15, 16, 17, 18, 19, 20, 21] (by decide +kernel) (by decide +kernel)
set_option maxRecDepth 20000 in
theorem gX0_giveTo_X0_isPlaceForBid : GoodIn wsX0_giveTo (wsV RX0 45 RX0 yX0_isPlaceForBid wsX0_isPlaceForBid) := goodIn_app (goodIn_of _ (by decide +kernel)) ggX0_giveTo_X0_isPlaceForBid
set_option maxRecDepth 20000 in
theorem ggX0_giveTo_X0_priceAsked : GoodIn wsX0_giveTo wsX0_priceAsked := goodIn_r _ [12, 13, 3, 4, 5, 6, 7, 8, 14, 15, 16, 17, 18, 19, 20, 21] (by decide +kernel) (by decide +kernel)
set_option maxRecDepth 20000 in
theorem gX0_giveTo_X0_priceAsked : GoodIn wsX0_giveTo (wsV RX0 49 RX0 yX0_priceAsked wsX0_priceAsked) := goodIn_app (goodIn_of _ (by decide +kernel)) ggX0_giveTo_X0_priceAsked
set_option maxRecDepth 20000 in
theorem ggX0_endDay_X0_isOpen : GoodIn wsX0_endDay wsX0_isOpen := goodIn_r _ [9, 10, 11, 12, 8, 13, 1, 3, 14, 15, 16, 17, 18, 19, 20, 21] (by decide +kernel) (by decide +kernel)
set_option maxRecDepth 20000 in
theorem gX0_endDay_X0_isOpen : GoodIn wsX0_endDay (wsV RX0 41 RX0 yX0_isOpen wsX0_isOpen) := goodIn_app (goodIn_of _ (by decide +kernel)) ggX0_endDay_X0_isOpen
set_option maxRecDepth 20000 in
theorem ggX1_crateAt_X1_heightOf : GoodIn wsX1_crateAt wsX1_heightOf := goodIn_r _ [6, 7, 8, 9, 10] (by decide +kernel) (by decide +kernel)
set_option maxRecDepth 20000 in
theorem gX1_crateAt_X1_heightOf : GoodIn wsX1_crateAt (wsV RX1 27 RX1 yX1_heightOf wsX1_heightOf) := goodIn_app (goodIn_of _ (by decide +kernel)) ggX1_crateAt_X1_heightOf
set_option maxRecDepth 20000 in
theorem ggX1_topOf_X1_heightOf : GoodIn wsX1_topOf wsX1_heightOf := goodIn_r _ [6, 7, 8, 9, 10] (by decide +kernel) (by decide +kernel)
set_option maxRecDepth 20000 in
theorem gX1_topOf_X1_heightOf : GoodIn wsX1_topOf (wsV RX1 27 RX1 yX1_heightOf wsX1_heightOf) := goodIn_app (goodIn_of _ (by decide +kernel)) ggX1_topOf_X1_heightOf
set_option maxRecDepth 20000 in
theorem ggX1_canTake_X1_heightOf : GoodIn wsX1_canTake wsX1_heightOf := goodIn_r _ [5, 6, 17, 18, 19] (by decide +kernel) (by decide +kernel)
set_option maxRecDepth 20000 in
theorem gX1_canTake_X1_heightOf : GoodIn wsX1_canTake (wsV RX1 27 RX1 yX1_heightOf wsX1_heightOf) := goodIn_app (goodIn_of _ (by decide +kernel)) ggX1_canTake_X1_heightOf
set_option maxRecDepth 20000 in
theorem ggX1_canTake_X1_topOf : GoodIn wsX1_canTake wsX1_topOf := goodIn_r _ [10, 11, 1, 2, 3, 4, 5, 6, 17, 18, 19] (by decide +kernel) (by decide +kernel)
set_option maxRecDepth 20000 in
theorem gX1_canTake_X1_topOf : GoodIn wsX1_canTake (wsV RX1 31 RX1 yX1_topOf wsX1_topOf) := goodIn_app (goodIn_of _ (by decide +kernel)) ggX1_canTake_X1_topOf
set_option maxRecDepth 20000 in
theorem ggX1_canTake_X1_weightOf : GoodIn wsX1_canTake wsX1_weightOf := goodIn_r _ [15, 16, 17, 18, 19] (by decide +kernel) (by decide +kernel)
set_option maxRecDepth 20000 in
theorem gX1_canTake_X1_weightOf : GoodIn wsX1_canTake (wsV RX1 34 RX1 yX1_weightOf wsX1_weightOf) := goodIn_app (goodIn_of _ (by decide +kernel)) ggX1_canTake_X1_weightOf
set_option maxRecDepth 20000 in
theorem ggX1_put_X1_heightOf : GoodIn wsX1_put wsX1_heightOf := goodIn_r _ [7, 2, 8, 9, 10] (by decide +kernel) (by decide +kernel)
set_option maxRecDepth 20000 in
theorem gX1_put_X1_heightOf : GoodIn wsX1_put (wsV RX1 27 RX1 yX1_heightOf wsX1_heightOf) := goodIn_app (goodIn_of _ (by decide +kernel)) ggX1_put_X1_heightOf
set_option maxRecDepth 20000 in
theorem ggX1_takeTop_X1_topOf : GoodIn wsX1_takeTop wsX1_topOf := goodIn_r _ [6, 7, 8, 9, 10, 5, 11, 1, 12, 13, 14] (by decide +kernel) (by decide +kernel)
set_option maxRecDepth 20000 in
theorem gX1_takeTop_X1_topOf : GoodIn wsX1_takeTop (wsV RX1 31 RX1 yX1_topOf wsX1_topOf) := goodIn_app (goodIn_of _ (by decide +kernel)) ggX1_takeTop_X1_topOf
set_option maxRecDepth 20000 in
theorem ggX1_digOut_X1_stackHolding : GoodIn wsX1_digOut wsX1_stackHolding := goodIn_r _ [5, 6, 7, 37, 38, 39] (by decide +kernel) (by decide +kernel)
set_option maxRecDepth 20000 in
theorem gX1_digOut_X1_stackHolding : GoodIn wsX1_digOut (wsV RX1 37 RX1 yX1_stackHolding wsX1_stackHolding) := goodIn_app (goodIn_of _ (by decide +kernel)) ggX1_digOut_X1_stackHolding
set_option maxRecDepth 20000 in
theorem ggX1_digOut_X1_takeTop : GoodIn wsX1_digOut wsX1_takeTop := goodIn_r _ [11, 6, 12, 13, 14, 4, 15, 7, 16, 17, 18, 19, 37, 38, 39] (by decide +kernel) (by decide +kernel)
set_option maxRecDepth 20000 in
theorem gX1_digOut_X1_takeTop : GoodIn wsX1_digOut (wsV RX1 40 RX1 yX1_takeTop wsX1_takeTop) := goodIn_app (goodIn_of _ (by decide +kernel)) ggX1_digOut_X1_takeTop
set_option maxRecDepth 20000 in
theorem ggX1_digOut_X1_weightOf : GoodIn wsX1_digOut wsX1_weightOf := goodIn_r _ [23, 24, 37, 38, 39] (by decide +kernel) (by decide +kernel)
set_option maxRecDepth 20000 in
theorem gX1_digOut_X1_weightOf : GoodIn wsX1_digOut (wsV RX1 34 RX1 yX1_weightOf wsX1_weightOf) := goodIn_app (goodIn_of _ (by decide +kernel)) ggX1_digOut_X1_weightOf
set_option maxRecDepth 20000 in
theorem ggX1_digOut_X1_targetFor : GoodIn wsX1_digOut wsX1_targetFor := goodIn_r _ [28, 29, 30, 31, 4, 32, 16, 17, 18, 19, 6, 12, 13, 14, 15, 7, 20, 21, 22, 23, 24, 37, 38, 39] (by decide +kernel) (by decide +kernel)
set_option maxRecDepth 20000 in
theorem gX1_digOut_X1_targetFor : GoodIn wsX1_digOut (wsV RX1 43 RX1 yX1_targetFor wsX1_targetFor) := goodIn_app (goodIn_of _ (by decide +kernel)) ggX1_digOut_X1_targetFor
set_option maxRecDepth 20000 in
theorem ggX1_digOut_X1_put : GoodIn wsX1_digOut wsX1_put := goodIn_r _ [36, 7, 6, 16, 17, 18, 4, 19, 37, 38, 39] (by decide +kernel) (by decide +kernel)
set_option maxRecDepth 20000 in
theorem gX1_digOut_X1_put : GoodIn wsX1_digOut (wsV RX1 47 RX1 yX1_put wsX1_put) := goodIn_app (goodIn_of _ (by decide +kernel)) ggX1_digOut_X1_put
set_option maxRecDepth 20000 in
theorem ggX1_targetFor_X1_canTake : GoodIn wsX1_targetFor wsX1_canTake := goodIn_r _ [5, 6, 7, 8, 4, 9, 10, 11, 12, 13, 14, 15, 16, 17, 18, 19, 20, 21, 22, 23] (by decide +kernel) (by decide +kernel)
set_option maxRecDepth 20000 in
theorem gX1_targetFor_X1_canTake : GoodIn wsX1_targetFor (wsV RX1 51 RX1 yX1_canTake wsX1_canTake) := goodIn_app (goodIn_of _ (by decide +kernel)) ggX1_targetFor_X1_canTake
set_option maxRecDepth 20000 in
theorem ggX1_targetFor_X1_heightOf : GoodIn wsX1_targetFor wsX1_heightOf := goodIn_r _ [9, 10, 21, 22, 23] (by decide +kernel) (by decide +kernel)
set_option maxRecDepth 20000 in
theorem gX1_targetFor_X1_heightOf : GoodIn wsX1_targetFor (wsV RX1 27 RX1 yX1_heightOf wsX1_heightOf) := goodIn_app (goodIn_of _ (by decide +kernel)) ggX1_targetFor_X1_heightOf
set_option maxRecDepth 20000 in
theorem ggX2_payShown_X2_isShown : GoodIn wsX2_payShown wsX2_isShown := goodIn_r _ [9, 4, 10, 11, 12, 8, 13, 14, 15, 16, 17, 18, 19] (by decide +kernel) (by decide +kernel)
set_option maxRecDepth 20000 in
theorem gX2_payShown_X2_isShown : GoodIn wsX2_payShown (wsV RX2 29 RX2 yX2_isShown wsX2_isShown) := goodIn_app (goodIn_of _ (by decide +kernel)) ggX2_payShown_X2_isShown
set_option maxRecDepth 20000 in
theorem ggX2_isShown_X2_isShownFrom : GoodIn wsX2_isShown wsX2_isShownFrom := goodIn_r _ [6, 1, 7, 8, 9, 10, 11, 12] (by decide +kernel) (by decide +kernel)
set_option maxRecDepth 20000 in
theorem gX2_isShown_X2_isShownFrom : GoodIn wsX2_isShown (wsV RX2 33 RX2 yX2_isShownFrom wsX2_isShownFrom) := goodIn_app (goodIn_of _ (by decide +kernel)) ggX2_isShown_X2_isShownFrom
set_option maxRecDepth 20000 in
theorem ggX3_init_X1_init : GoodIn wsX3_init wsX1_init := goodIn_r _ [27, 28, 2, 3, 17, 29, 30, 31, 52, 53, 54] (by decide +kernel) (by decide +kernel)
set_option maxRecDepth 20000 in
theorem gX3_init_X1_init_n9 : GoodIn wsX3_init (wsX1_init) := ggX3_init_X1_init
set_option maxRecDepth 20000 in
theorem ggX3_init_X2_init : GoodIn wsX3_init wsX2_init := goodIn_r _ [33, 34, 2, 3, 17, 35, 36, 37, 38, 39, 40, 67, 68, 69, 70, 71] (by decide +kernel) (by decide +kernel)
set_option maxRecDepth 20000 in
theorem gX3_init_X2_init_n21 : GoodIn wsX3_init (wsX2_init) := ggX3_init_X2_init
set_option maxRecDepth 20000 in
theorem ggX3_init_X0_init : GoodIn wsX3_init wsX0_init := goodIn_r _ [42, 43, 2, 3, 17, 44, 45, 46, 47, 48, 49, 50, 51, 72, 73, 74, 75, 76, 77, 78, 79] (by decide +kernel) (by decide +kernel)
set_option maxRecDepth 20000 in
theorem gX3_init_X0_init_n28 : GoodIn wsX3_init (wsX0_init) := ggX3_init_X0_init
set_option maxRecDepth 20000 in
theorem ggX3_arrive_X3_requireLetter : GoodIn wsX3_arrive wsX3_requireLetter := goodIn_ca (goodIn_r _ [11, 1, 2] (by decide +kernel) (by decide +kernel)) (goodIn_sub (fun _ h => List.mem_cons_of_mem _ (List.mem_append_left _ (List.mem_append_right _ h))) (by decide +kernel))
set_option maxRecDepth 20000 in
theorem gX3_arrive_X3_requireLetter : GoodIn wsX3_arrive (va_wsS RX3 67 yX3_requireLetter wsX3_requireLetter) := goodIn_app (goodIn_of _ (by decide +kernel)) ggX3_arrive_X3_requireLetter
set_option maxRecDepth 20000 in
theorem ggX3_arrive_X3_requireStack : GoodIn wsX3_arrive wsX3_requireStack := goodIn_ca (goodIn_r _ [14, 1, 2] (by decide +kernel) (by decide +kernel)) (goodIn_sub (fun _ h => List.mem_cons_of_mem _ (List.mem_append_left _ (List.mem_append_right _ h))) (by decide +kernel))
set_option maxRecDepth 20000 in
theorem gX3_arrive_X3_requireStack : GoodIn wsX3_arrive (va_wsS RX3 71 yX3_requireStack wsX3_requireStack) := goodIn_app (goodIn_of _ (by decide +kernel)) ggX3_arrive_X3_requireStack
set_option maxRecDepth 20000 in
theorem ggX3_arrive_X3_requireRoom : GoodIn wsX3_arrive wsX3_requireRoom := goodIn_ca (goodIn_r _ [18, 3, 4, 7, 19, 20, 21, 10, 22, 23, 24, 25, 26, 27, 28, 29, 30, 31, 32, 33, 34, 35, 36, 37, 38, 39, 40, 41, 42, 43, 77, 78, 79, 80, 81, 82, 83, 84, 85, 86, 87, 88, 89, 90, 91] (by decide +kernel) (by decide +kernel)) (goodIn_sub (fun _ h => List.mem_cons_of_mem _ (List.mem_append_right _ h)) (by decide +kernel))
set_option maxRecDepth 20000 in
theorem gX3_arrive_X3_requireRoom : GoodIn wsX3_arrive (wsV RX3 79 RX3 yX3_requireRoom wsX3_requireRoom) := goodIn_app (goodIn_of _ (by decide +kernel)) ggX3_arrive_X3_requireRoom
set_option maxRecDepth 20000 in
theorem ggX3_arrive_X1_setWeight : GoodIn wsX3_arrive wsX1_setWeight := goodIn_r _ [47, 43, 89, 90, 91] (by decide +kernel) (by decide +kernel)
set_option maxRecDepth 20000 in
theorem gX3_arrive_X1_setWeight : GoodIn wsX3_arrive (wsV RX3 83 RX1 yX1_setWeight wsX1_setWeight) := goodIn_app (goodIn_of _ (by decide +kernel)) ggX3_arrive_X1_setWeight
set_option maxRecDepth 20000 in
theorem ggX3_arrive_X1_put : GoodIn wsX3_arrive wsX1_put := goodIn_r _ [51, 38, 33, 29, 30, 31, 27, 32, 89, 90, 91] (by decide +kernel) (by decide +kernel)
set_option maxRecDepth 20000 in
theorem gX3_arrive_X1_put : GoodIn wsX3_arrive (wsV RX3 86 RX1 yX1_put wsX1_put) := goodIn_app (goodIn_of _ (by decide +kernel)) ggX3_arrive_X1_put
set_option maxRecDepth 20000 in
theorem ggX3_arrive_X3_payWords : GoodIn wsX3_arrive wsX3_payWords := goodIn_r _ [55, 7, 56, 6, 57, 58, 35, 36, 27, 37, 38, 29, 30, 31, 32, 33, 59, 60, 61, 62, 63, 64, 65, 66, 67, 68, 69, 70, 71, 72, 73, 74, 75, 76, 77, 78, 79, 80, 81, 82, 83, 84, 85, 86, 87, 88, 89, 90, 91, 92, 93, 94, 95, 96] (by decide +kernel) (by decide +kernel)
set_option maxRecDepth 20000 in
theorem gX3_arrive_X3_payWords : GoodIn wsX3_arrive (wsV RX3 89 RX3 yX3_payWords wsX3_payWords) := goodIn_app (goodIn_of _ (by decide +kernel)) ggX3_arrive_X3_payWords
set_option maxRecDepth 20000 in
theorem ggX3_lift_X3_requireStack : GoodIn wsX3_lift wsX3_requireStack := goodIn_ca (goodIn_r _ [9, 10, 11] (by decide +kernel) (by decide +kernel)) (goodIn_sub (fun _ h => List.mem_cons_of_mem _ (List.mem_append_right _ h)) (by decide +kernel))
set_option maxRecDepth 20000 in
theorem gX3_lift_X3_requireStack : GoodIn wsX3_lift (va_wsS RX3 71 yX3_requireStack wsX3_requireStack) := goodIn_app (goodIn_of _ (by decide +kernel)) ggX3_lift_X3_requireStack
set_option maxRecDepth 20000 in
theorem ggX3_lift_X3_requireEmptyCrane : GoodIn wsX3_lift wsX3_requireEmptyCrane := goodIn_ca (goodIn_r _ [15, 1, 2, 4, 58, 59, 60, 61, 62, 63, 64, 65, 66, 67, 68, 69] (by decide +kernel) (by decide +kernel)) (goodIn_sub (fun _ h => List.mem_cons_of_mem _ (List.mem_append_left _ (List.mem_append_right _ h))) (by decide +kernel))
set_option maxRecDepth 20000 in
theorem gX3_lift_X3_requireEmptyCrane : GoodIn wsX3_lift (wsV RX3 92 RX3 yX3_requireEmptyCrane wsX3_requireEmptyCrane) := goodIn_app (goodIn_of _ (by decide +kernel)) ggX3_lift_X3_requireEmptyCrane
set_option maxRecDepth 20000 in
theorem ggX3_lift_X1_heightOf : GoodIn wsX3_lift wsX1_heightOf := goodIn_r _ [20, 21, 70, 71, 72] (by decide +kernel) (by decide +kernel)
set_option maxRecDepth 20000 in
theorem gX3_lift_X1_heightOf : GoodIn wsX3_lift (wsV RX3 95 RX1 yX1_heightOf wsX1_heightOf) := goodIn_app (goodIn_of _ (by decide +kernel)) ggX3_lift_X1_heightOf
set_option maxRecDepth 20000 in
theorem ggX3_lift_X1_takeTop : GoodIn wsX3_lift wsX1_takeTop := goodIn_r _ [25, 21, 26, 27, 28, 19, 29, 30, 31, 17, 18, 20, 70, 71, 72] (by decide +kernel) (by decide +kernel)
set_option maxRecDepth 20000 in
theorem gX3_lift_X1_takeTop : GoodIn wsX3_lift (wsV RX3 101 RX1 yX1_takeTop wsX1_takeTop) := goodIn_app (goodIn_of _ (by decide +kernel)) ggX3_lift_X1_takeTop
set_option maxRecDepth 20000 in
theorem ggX3_lift_X3_payWords : GoodIn wsX3_lift wsX3_payWords := goodIn_r _ [35, 3, 36, 37, 38, 39, 27, 28, 19, 29, 30, 31, 17, 18, 20, 21, 40, 41, 42, 43, 44, 45, 46, 47, 48, 49, 50, 51, 52, 53, 54, 55, 56, 57, 58, 59, 60, 61, 62, 63, 64, 65, 66, 67, 68, 69, 70, 71, 72, 73, 74, 75, 76, 77] (by decide +kernel) (by decide +kernel)
set_option maxRecDepth 20000 in
theorem gX3_lift_X3_payWords : GoodIn wsX3_lift (wsV RX3 89 RX3 yX3_payWords wsX3_payWords) := goodIn_app (goodIn_of _ (by decide +kernel)) ggX3_lift_X3_payWords
set_option maxRecDepth 20000 in
theorem ggX3_drop_X3_requireStack : GoodIn wsX3_drop wsX3_requireStack := goodIn_ca (goodIn_r _ [6, 7, 8] (by decide +kernel) (by decide +kernel)) (goodIn_sub (fun _ h => List.mem_cons_of_mem _ (List.mem_append_left _ (List.mem_append_right _ h))) (by decide +kernel))
set_option maxRecDepth 20000 in
theorem gX3_drop_X3_requireStack : GoodIn wsX3_drop (va_wsS RX3 71 yX3_requireStack wsX3_requireStack) := goodIn_app (goodIn_of _ (by decide +kernel)) ggX3_drop_X3_requireStack
set_option maxRecDepth 20000 in
theorem ggX3_drop_X3_requireFullCrane : GoodIn wsX3_drop wsX3_requireFullCrane := goodIn_ca (goodIn_r _ [12, 13, 14, 2, 76, 77, 78, 79, 80, 81, 82, 83, 84, 85, 86, 87] (by decide +kernel) (by decide +kernel)) (goodIn_sub (fun _ h => List.mem_cons_of_mem _ (List.mem_append_right _ h)) (by decide +kernel))
set_option maxRecDepth 20000 in
theorem gX3_drop_X3_requireFullCrane : GoodIn wsX3_drop (wsV RX3 104 RX3 yX3_requireFullCrane wsX3_requireFullCrane) := goodIn_app (goodIn_of _ (by decide +kernel)) ggX3_drop_X3_requireFullCrane
set_option maxRecDepth 20000 in
theorem ggX3_drop_X1_weightOf : GoodIn wsX3_drop wsX1_weightOf := goodIn_r _ [19, 20, 88, 89, 90] (by decide +kernel) (by decide +kernel)
set_option maxRecDepth 20000 in
theorem gX3_drop_X1_weightOf : GoodIn wsX3_drop (wsV RX3 107 RX1 yX1_weightOf wsX1_weightOf) := goodIn_app (goodIn_of _ (by decide +kernel)) ggX3_drop_X1_weightOf
set_option maxRecDepth 20000 in
theorem ggX3_drop_X3_requireRoom : GoodIn wsX3_drop wsX3_requireRoom := goodIn_ca (goodIn_r _ [24, 13, 14, 1, 25, 26, 27, 5, 28, 29, 30, 31, 32, 18, 33, 34, 35, 36, 37, 38, 39, 40, 41, 42, 43, 44, 16, 17, 19, 20, 76, 77, 78, 79, 80, 81, 82, 83, 84, 85, 86, 87, 88, 89, 90] (by decide +kernel) (by decide +kernel)) (goodIn_sub (fun _ h => List.mem_cons_of_mem _ (List.mem_append_right _ h)) (by decide +kernel))
set_option maxRecDepth 20000 in
theorem gX3_drop_X3_requireRoom : GoodIn wsX3_drop (wsV RX3 79 RX3 yX3_requireRoom wsX3_requireRoom) := goodIn_app (goodIn_of _ (by decide +kernel)) ggX3_drop_X3_requireRoom
set_option maxRecDepth 20000 in
theorem ggX3_drop_X1_put : GoodIn wsX3_drop wsX1_put := goodIn_r _ [48, 43, 38, 34, 35, 36, 18, 37, 88, 89, 90] (by decide +kernel) (by decide +kernel)
set_option maxRecDepth 20000 in
theorem gX3_drop_X1_put : GoodIn wsX3_drop (wsV RX3 86 RX1 yX1_put wsX1_put) := goodIn_app (goodIn_of _ (by decide +kernel)) ggX3_drop_X1_put
set_option maxRecDepth 20000 in
theorem ggX3_drop_X3_payWords : GoodIn wsX3_drop wsX3_payWords := goodIn_r _ [52, 1, 53, 54, 55, 56, 40, 41, 18, 42, 43, 34, 35, 36, 37, 38, 57, 58, 59, 60, 61, 62, 63, 64, 65, 66, 67, 68, 69, 70, 71, 72, 73, 74, 76, 77, 78, 79, 80, 81, 82, 83, 84, 85, 86, 87, 88, 89, 90, 91, 92, 93, 94, 95] (by decide +kernel) (by decide +kernel)
set_option maxRecDepth 20000 in
theorem gX3_drop_X3_payWords : GoodIn wsX3_drop (wsV RX3 89 RX3 yX3_payWords wsX3_payWords) := goodIn_app (goodIn_of _ (by decide +kernel)) ggX3_drop_X3_payWords
set_option maxRecDepth 20000 in
theorem ggX3_drop_X1_heightOf : GoodIn wsX3_drop wsX1_heightOf := goodIn_r _ [37, 38, 88, 89, 90] (by decide +kernel) (by decide +kernel)
set_option maxRecDepth 20000 in
theorem gX3_drop_X1_heightOf : GoodIn wsX3_drop (wsV RX3 95 RX1 yX1_heightOf wsX1_heightOf) := goodIn_app (goodIn_of _ (by decide +kernel)) ggX3_drop_X1_heightOf
set_option maxRecDepth 20000 in
theorem ggX3_dig_X3_requireCrate : GoodIn wsX3_dig wsX3_requireCrate := goodIn_ca (goodIn_r _ [11, 12, 13, 14, 103, 104, 105, 106, 107, 108, 109, 110, 111, 112, 113, 114] (by decide +kernel) (by decide +kernel)) (goodIn_sub (fun _ h => List.mem_cons_of_mem _ (List.mem_append_right _ h)) (by decide +kernel))
set_option maxRecDepth 20000 in
theorem gX3_dig_X3_requireCrate : GoodIn wsX3_dig (wsV RX3 110 RX3 yX3_requireCrate wsX3_requireCrate) := goodIn_app (goodIn_of _ (by decide +kernel)) ggX3_dig_X3_requireCrate
set_option maxRecDepth 20000 in
theorem ggX3_dig_X3_requireEmptyCrane : GoodIn wsX3_dig wsX3_requireEmptyCrane := goodIn_ca (goodIn_r _ [18, 1, 2, 5, 103, 104, 105, 106, 107, 108, 109, 110, 111, 112, 113, 114] (by decide +kernel) (by decide +kernel)) (goodIn_sub (fun _ h => List.mem_cons_of_mem _ (List.mem_append_left _ (List.mem_append_right _ h))) (by decide +kernel))
set_option maxRecDepth 20000 in
theorem gX3_dig_X3_requireEmptyCrane : GoodIn wsX3_dig (wsV RX3 92 RX3 yX3_requireEmptyCrane wsX3_requireEmptyCrane) := goodIn_app (goodIn_of _ (by decide +kernel)) ggX3_dig_X3_requireEmptyCrane
set_option maxRecDepth 20000 in
theorem ggX3_dig_X3_requireInStack : GoodIn wsX3_dig wsX3_requireInStack := goodIn_ca (goodIn_r _ [22, 1, 2, 4, 23, 24, 25, 26, 27, 28, 29, 103, 104, 105, 106, 107, 108, 109, 110, 111, 112, 113, 114, 115, 116, 117] (by decide +kernel) (by decide +kernel)) (goodIn_sub (fun _ h => List.mem_cons_of_mem _ (List.mem_append_left _ (List.mem_append_right _ h))) (by decide +kernel))
set_option maxRecDepth 20000 in
theorem gX3_dig_X3_requireInStack : GoodIn wsX3_dig (wsV RX3 113 RX3 yX3_requireInStack wsX3_requireInStack) := goodIn_app (goodIn_of _ (by decide +kernel)) ggX3_dig_X3_requireInStack
set_option maxRecDepth 20000 in
theorem ggX3_dig_X1_copyFrom : GoodIn wsX3_dig wsX1_copyFrom := goodIn_r _ [33, 28, 34, 35, 36, 37, 29, 38, 115, 116, 117] (by decide +kernel) (by decide +kernel)
set_option maxRecDepth 20000 in
theorem gX3_dig_X1_copyFrom : GoodIn wsX3_dig (wsV RX3 116 RX1 yX1_copyFrom wsX1_copyFrom) := goodIn_app (goodIn_of _ (by decide +kernel)) ggX3_dig_X1_copyFrom
set_option maxRecDepth 20000 in
theorem ggX3_dig_X3_mostPlaces : GoodIn wsX3_dig wsX3_mostPlaces := goodIn_r _ [42, 43, 103, 104, 105, 106, 107, 108, 109, 110, 111, 112, 113, 114] (by decide +kernel) (by decide +kernel)
set_option maxRecDepth 20000 in
theorem gX3_dig_X3_mostPlaces : GoodIn wsX3_dig (wsV RX3 120 RX3 yX3_mostPlaces wsX3_mostPlaces) := goodIn_app (goodIn_of _ (by decide +kernel)) ggX3_dig_X3_mostPlaces
set_option maxRecDepth 20000 in
theorem ggX3_dig_X1_digOut : GoodIn wsX3_dig wsX1_digOut := goodIn_r _ [47, 48, 24, 25, 26, 27, 28, 29, 49, 50, 51, 52, 53, 54, 55, 56, 57, 58, 59, 60, 61, 62, 63, 64, 38, 65, 66, 67, 68, 69, 70, 71, 72, 73, 74, 75, 76, 115, 116, 117] (by decide +kernel) (by decide +kernel)
set_option maxRecDepth 20000 in
theorem gX3_dig_X1_digOut : GoodIn wsX3_dig (wsV RX3 124 RX1 yX1_digOut wsX1_digOut) := goodIn_app (goodIn_of _ (by decide +kernel)) ggX3_dig_X1_digOut
set_option maxRecDepth 20000 in
theorem ggX3_dig_X3_payWords : GoodIn wsX3_dig wsX3_payWords := goodIn_r _ [80, 4, 81, 82, 83, 84, 54, 55, 26, 56, 29, 57, 58, 59, 60, 28, 85, 86, 87, 88, 89, 90, 91, 92, 93, 94, 95, 96, 97, 98, 99, 100, 101, 102, 103, 104, 105, 106, 107, 108, 109, 110, 111, 112, 113, 114, 115, 116, 117, 118, 119, 120, 121, 122] (by decide +kernel) (by decide +kernel)
set_option maxRecDepth 20000 in
theorem gX3_dig_X3_payWords : GoodIn wsX3_dig (wsV RX3 89 RX3 yX3_payWords wsX3_payWords) := goodIn_app (goodIn_of _ (by decide +kernel)) ggX3_dig_X3_payWords
set_option maxRecDepth 20000 in
theorem ggX3_height_X3_requireStack : GoodIn wsX3_height wsX3_requireStack := goodIn_ca (goodIn_r _ [5, 6, 7] (by decide +kernel) (by decide +kernel)) (goodIn_sub (fun _ h => List.mem_cons_of_mem _ (List.mem_append_right _ h)) (by decide +kernel))
set_option maxRecDepth 20000 in
theorem gX3_height_X3_requireStack : GoodIn wsX3_height (va_wsS RX3 71 yX3_requireStack wsX3_requireStack) := goodIn_app (goodIn_of _ (by decide +kernel)) ggX3_height_X3_requireStack
set_option maxRecDepth 20000 in
theorem ggX3_height_X1_heightOf : GoodIn wsX3_height wsX1_heightOf := goodIn_r _ [12, 13, 26, 27, 28] (by decide +kernel) (by decide +kernel)
set_option maxRecDepth 20000 in
theorem gX3_height_X1_heightOf : GoodIn wsX3_height (wsV RX3 95 RX1 yX1_heightOf wsX1_heightOf) := goodIn_app (goodIn_of _ (by decide +kernel)) ggX3_height_X1_heightOf
set_option maxRecDepth 20000 in
theorem ggX3_at_X3_requireStack : GoodIn wsX3_at wsX3_requireStack := goodIn_ca (goodIn_r _ [7, 1, 2] (by decide +kernel) (by decide +kernel)) (goodIn_sub (fun _ h => List.mem_cons_of_mem _ (List.mem_append_right _ h)) (by decide +kernel))
set_option maxRecDepth 20000 in
theorem gX3_at_X3_requireStack : GoodIn wsX3_at (va_wsS RX3 71 yX3_requireStack wsX3_requireStack) := goodIn_app (goodIn_of _ (by decide +kernel)) ggX3_at_X3_requireStack
set_option maxRecDepth 20000 in
theorem ggX3_at_X1_crateAt : GoodIn wsX3_at wsX1_crateAt := goodIn_r _ [12, 13, 14, 15, 16, 11, 17, 18, 31, 32, 33] (by decide +kernel) (by decide +kernel)
set_option maxRecDepth 20000 in
theorem gX3_at_X1_crateAt : GoodIn wsX3_at (wsV RX3 132 RX1 yX1_crateAt wsX1_crateAt) := goodIn_app (goodIn_of _ (by decide +kernel)) ggX3_at_X1_crateAt
set_option maxRecDepth 20000 in
theorem ggX3_stackOf_X3_requireCrate : GoodIn wsX3_stackOf wsX3_requireCrate := goodIn_ca (goodIn_r _ [6, 7, 8, 9, 17, 18, 19, 20, 21, 22, 23, 24, 25, 26, 27, 28] (by decide +kernel) (by decide +kernel)) (goodIn_sub (fun _ h => List.mem_cons_of_mem _ (List.mem_append_right _ h)) (by decide +kernel))
set_option maxRecDepth 20000 in
theorem gX3_stackOf_X3_requireCrate : GoodIn wsX3_stackOf (wsV RX3 110 RX3 yX3_requireCrate wsX3_requireCrate) := goodIn_app (goodIn_of _ (by decide +kernel)) ggX3_stackOf_X3_requireCrate
set_option maxRecDepth 20000 in
theorem ggX3_stackOf_X1_stackHolding : GoodIn wsX3_stackOf wsX1_stackHolding := goodIn_r _ [14, 15, 16, 29, 30, 31] (by decide +kernel) (by decide +kernel)
set_option maxRecDepth 20000 in
theorem gX3_stackOf_X1_stackHolding : GoodIn wsX3_stackOf (wsV RX3 135 RX1 yX1_stackHolding wsX1_stackHolding) := goodIn_app (goodIn_of _ (by decide +kernel)) ggX3_stackOf_X1_stackHolding
set_option maxRecDepth 20000 in
theorem ggX3_fewestLifts_X3_areInStacks : GoodIn wsX3_fewestLifts wsX3_areInStacks := goodIn_r _ [7, 8, 9, 10, 11, 12, 13, 14, 15, 16, 17, 6, 18, 19, 20, 21, 22, 23, 24, 25, 91, 92, 93, 94, 95, 96, 97, 98, 99, 100, 101, 102, 103, 104, 105] (by decide +kernel) (by decide +kernel)
set_option maxRecDepth 20000 in
theorem gX3_fewestLifts_X3_areInStacks : GoodIn wsX3_fewestLifts (wsV RX3 138 RX3 yX3_areInStacks wsX3_areInStacks) := goodIn_app (goodIn_of _ (by decide +kernel)) ggX3_fewestLifts_X3_areInStacks
set_option maxRecDepth 20000 in
theorem ggX3_fewestLifts_X3_requireEmptyCrane : GoodIn wsX3_fewestLifts wsX3_requireEmptyCrane := goodIn_ca (goodIn_r _ [29, 30, 31, 32, 91, 92, 93, 94, 95, 96, 97, 98, 99, 100, 101, 102] (by decide +kernel) (by decide +kernel)) (goodIn_sub (fun _ h => List.mem_cons_of_mem _ (List.mem_append_right _ h)) (by decide +kernel))
set_option maxRecDepth 20000 in
theorem gX3_fewestLifts_X3_requireEmptyCrane : GoodIn wsX3_fewestLifts (wsV RX3 92 RX3 yX3_requireEmptyCrane wsX3_requireEmptyCrane) := goodIn_app (goodIn_of _ (by decide +kernel)) ggX3_fewestLifts_X3_requireEmptyCrane
set_option maxRecDepth 20000 in
theorem ggX3_fewestLifts_J6_bitCount_0f7a4 : GoodIn wsX3_fewestLifts wsJ6_bitCount_0f7a4 := goodIn_r _ [12, 13, 14, 15] (by decide +kernel) (by decide +kernel)
set_option maxRecDepth 20000 in
theorem gX3_fewestLifts_J6_bitCount_0f7a4 : GoodIn wsX3_fewestLifts (va_wsS RX3 144 yJ6_bitCount_0f7a4 wsJ6_bitCount_0f7a4) := goodIn_app (goodIn_of _ (by decide +kernel)) ggX3_fewestLifts_J6_bitCount_0f7a4
set_option maxRecDepth 20000 in
theorem ggX3_fewestLifts_X3_ordersOf : GoodIn wsX3_fewestLifts wsX3_ordersOf := goodIn_r _ [35] (by decide +kernel) (by decide +kernel)
set_option maxRecDepth 20000 in
theorem gX3_fewestLifts_X3_ordersOf : GoodIn wsX3_fewestLifts (va_wsS RX3 149 yX3_ordersOf wsX3_ordersOf) := goodIn_app (goodIn_of _ (by decide +kernel)) ggX3_fewestLifts_X3_ordersOf
set_option maxRecDepth 20000 in
theorem ggX3_fewestLifts_X3_liftsInOrder : GoodIn wsX3_fewestLifts wsX3_liftsInOrder := goodIn_r _ [39, 40, 8, 41, 42, 43, 22, 44, 24, 45, 46, 47, 48, 25, 49, 9, 10, 11, 12, 13, 14, 15, 50, 51, 6, 52, 16, 17, 18, 53, 54, 55, 56, 57, 58, 59, 60, 61, 62, 20, 21, 23, 63, 64, 65, 66, 67, 68, 69, 70, 71, 72, 73, 74, 75, 76, 77, 78, 79, 80, 81, 82, 83, 84, 85, 86, 87, 88, 89, 90, 91, 92, 93, 94, 95, 96, 97, 98, 99, 100, 101, 102, 103, 104, 105] (by decide +kernel) (by decide +kernel)
set_option maxRecDepth 20000 in
theorem gX3_fewestLifts_X3_liftsInOrder : GoodIn wsX3_fewestLifts (wsV RX3 152 RX3 yX3_liftsInOrder wsX3_liftsInOrder) := goodIn_app (goodIn_of _ (by decide +kernel)) ggX3_fewestLifts_X3_liftsInOrder
set_option maxRecDepth 20000 in
theorem ggX3_tell_X3_requireLetter : GoodIn wsX3_tell wsX3_requireLetter := goodIn_ca (goodIn_r _ [9, 1, 2] (by decide +kernel) (by decide +kernel)) (goodIn_sub (fun _ h => List.mem_cons_of_mem _ (List.mem_append_left _ (List.mem_append_right _ h))) (by decide +kernel))
set_option maxRecDepth 20000 in
theorem gX3_tell_X3_requireLetter : GoodIn wsX3_tell (va_wsS RX3 67 yX3_requireLetter wsX3_requireLetter) := goodIn_app (goodIn_of _ (by decide +kernel)) ggX3_tell_X3_requireLetter
set_option maxRecDepth 20000 in
theorem ggX3_tell_X2_number : GoodIn wsX3_tell wsX2_number := goodIn_r _ [14, 15, 66, 67, 68, 69, 70] (by decide +kernel) (by decide +kernel)
set_option maxRecDepth 20000 in
theorem gX3_tell_X2_number : GoodIn wsX3_tell (wsV RX3 157 RX2 yX2_number wsX2_number) := goodIn_app (goodIn_of _ (by decide +kernel)) ggX3_tell_X2_number
set_option maxRecDepth 20000 in
theorem ggX3_tell_X2_add : GoodIn wsX3_tell wsX2_add := goodIn_r _ [19, 15, 20, 21, 66, 67, 68, 69, 70] (by decide +kernel) (by decide +kernel)
set_option maxRecDepth 20000 in
theorem gX3_tell_X2_add : GoodIn wsX3_tell (wsV RX3 162 RX2 yX2_add wsX2_add) := goodIn_app (goodIn_of _ (by decide +kernel)) ggX3_tell_X2_add
set_option maxRecDepth 20000 in
theorem ggX3_tell_X3_payWords : GoodIn wsX3_tell wsX3_payWords := goodIn_r _ [25, 26, 27, 28, 5, 29, 30, 31, 32, 33, 34, 35, 36, 37, 38, 39, 40, 41, 42, 13, 43, 15, 44, 45, 21, 46, 47, 48, 49, 50, 51, 52, 53, 20, 54, 55, 56, 57, 58, 59, 60, 61, 62, 63, 64, 65, 71, 72, 73, 66, 67, 68, 69, 70] (by decide +kernel) (by decide +kernel)
set_option maxRecDepth 20000 in
theorem gX3_tell_X3_payWords : GoodIn wsX3_tell (wsV RX3 89 RX3 yX3_payWords wsX3_payWords) := goodIn_app (goodIn_of _ (by decide +kernel)) ggX3_tell_X3_payWords
set_option maxRecDepth 20000 in
theorem ggX3_hasPaid_X2_number : GoodIn wsX3_hasPaid wsX2_number := goodIn_r _ [8, 9, 27, 28, 29, 30, 31] (by decide +kernel) (by decide +kernel)
set_option maxRecDepth 20000 in
theorem gX3_hasPaid_X2_number : GoodIn wsX3_hasPaid (wsV RX3 157 RX2 yX2_number wsX2_number) := goodIn_app (goodIn_of _ (by decide +kernel)) ggX3_hasPaid_X2_number
set_option maxRecDepth 20000 in
theorem ggX3_hasPaid_X2_isPaid : GoodIn wsX3_hasPaid wsX2_isPaid := goodIn_r _ [13, 9, 14, 27, 28, 29, 30, 31] (by decide +kernel) (by decide +kernel)
set_option maxRecDepth 20000 in
theorem gX3_hasPaid_X2_isPaid : GoodIn wsX3_hasPaid (wsV RX3 171 RX2 yX2_isPaid wsX2_isPaid) := goodIn_app (goodIn_of _ (by decide +kernel)) ggX3_hasPaid_X2_isPaid
set_option maxRecDepth 20000 in
theorem ggX3_bonus_X2_paidInAll : GoodIn wsX3_bonus wsX2_paidInAll := goodIn_r _ [6, 7, 20, 21, 22, 23, 24] (by decide +kernel) (by decide +kernel)
set_option maxRecDepth 20000 in
theorem gX3_bonus_X2_paidInAll : GoodIn wsX3_bonus (wsV RX3 174 RX2 yX2_paidInAll wsX2_paidInAll) := goodIn_app (goodIn_of _ (by decide +kernel)) ggX3_bonus_X2_paidInAll
set_option maxRecDepth 20000 in
theorem ggX3_offer_X3_requireCrate : GoodIn wsX3_offer wsX3_requireCrate := goodIn_ca (goodIn_r _ [11, 12, 13, 14, 52, 53, 54, 55, 56, 57, 58, 59, 60, 61, 62, 63] (by decide +kernel) (by decide +kernel)) (goodIn_sub (fun _ h => List.mem_cons_of_mem _ (List.mem_append_right _ h)) (by decide +kernel))
set_option maxRecDepth 20000 in
theorem gX3_offer_X3_requireCrate : GoodIn wsX3_offer (wsV RX3 110 RX3 yX3_requireCrate wsX3_requireCrate) := goodIn_app (goodIn_of _ (by decide +kernel)) ggX3_offer_X3_requireCrate
set_option maxRecDepth 20000 in
theorem ggX3_offer_X3_requireInStack : GoodIn wsX3_offer wsX3_requireInStack := goodIn_ca (goodIn_r _ [18, 3, 4, 19, 20, 21, 22, 23, 24, 25, 26, 52, 53, 54, 55, 56, 57, 58, 59, 60, 61, 62, 63, 64, 65, 66] (by decide +kernel) (by decide +kernel)) (goodIn_sub (fun _ h => List.mem_cons_of_mem _ (List.mem_append_left _ (List.mem_append_right _ h))) (by decide +kernel))
set_option maxRecDepth 20000 in
theorem gX3_offer_X3_requireInStack : GoodIn wsX3_offer (wsV RX3 113 RX3 yX3_requireInStack wsX3_requireInStack) := goodIn_app (goodIn_of _ (by decide +kernel)) ggX3_offer_X3_requireInStack
set_option maxRecDepth 20000 in
theorem ggX3_offer_X0_openHaulOf : GoodIn wsX3_offer wsX0_openHaulOf := goodIn_r _ [31, 32, 33, 34, 35, 36, 30, 37, 38, 39, 40, 41, 42, 67, 68, 69, 70, 71, 72, 73, 74] (by decide +kernel) (by decide +kernel)
set_option maxRecDepth 20000 in
theorem gX3_offer_X0_openHaulOf : GoodIn wsX3_offer (wsV RX3 179 RX0 yX0_openHaulOf wsX0_openHaulOf) := goodIn_app (goodIn_of _ (by decide +kernel)) ggX3_offer_X0_openHaulOf
set_option maxRecDepth 20000 in
theorem ggX3_offer_X0_number : GoodIn wsX3_offer wsX0_number := goodIn_r _ [46, 32, 67, 68, 69, 70, 71, 72, 73, 74] (by decide +kernel) (by decide +kernel)
set_option maxRecDepth 20000 in
theorem gX3_offer_X0_number : GoodIn wsX3_offer (wsV RX3 184 RX0 yX0_number wsX0_number) := goodIn_app (goodIn_of _ (by decide +kernel)) ggX3_offer_X0_number
set_option maxRecDepth 20000 in
theorem ggX3_offer_X0_add : GoodIn wsX3_offer wsX0_add := goodIn_r _ [50, 32, 33, 51, 42, 67, 68, 69, 70, 71, 72, 73, 74] (by decide +kernel) (by decide +kernel)
set_option maxRecDepth 20000 in
theorem gX3_offer_X0_add : GoodIn wsX3_offer (wsV RX3 187 RX0 yX0_add wsX0_add) := goodIn_app (goodIn_of _ (by decide +kernel)) ggX3_offer_X0_add
set_option maxRecDepth 20000 in
theorem ggX3_bid_X3_requireHaul : GoodIn wsX3_bid wsX3_requireHaul := goodIn_ca (goodIn_r _ [10, 11, 12, 5, 13, 14, 15, 16, 17, 18, 41, 42, 43, 44, 45, 46, 47, 48, 49, 50, 51, 52, 53, 54, 55, 56, 57, 58, 59, 60] (by decide +kernel) (by decide +kernel)) (goodIn_sub (fun _ h => List.mem_cons_of_mem _ (List.mem_append_right _ h)) (by decide +kernel))
set_option maxRecDepth 20000 in
theorem gX3_bid_X3_requireHaul : GoodIn wsX3_bid (wsV RX3 189 RX3 yX3_requireHaul wsX3_requireHaul) := goodIn_app (goodIn_of _ (by decide +kernel)) ggX3_bid_X3_requireHaul
set_option maxRecDepth 20000 in
theorem ggX3_bid_X3_requireOffered : GoodIn wsX3_bid wsX3_requireOffered := goodIn_ca (goodIn_r _ [22, 3, 4, 5, 23, 24, 25, 16, 26, 18, 27, 41, 42, 43, 44, 45, 46, 47, 48, 49, 50, 51, 52, 53, 54, 55, 56, 57, 58, 59, 60] (by decide +kernel) (by decide +kernel)) (goodIn_sub (fun _ h => List.mem_cons_of_mem _ (List.mem_append_left _ (List.mem_append_right _ h))) (by decide +kernel))
set_option maxRecDepth 20000 in
theorem gX3_bid_X3_requireOffered : GoodIn wsX3_bid (wsV RX3 196 RX3 yX3_requireOffered wsX3_requireOffered) := goodIn_app (goodIn_of _ (by decide +kernel)) ggX3_bid_X3_requireOffered
set_option maxRecDepth 20000 in
theorem ggX3_bid_X0_priceAsked : GoodIn wsX3_bid wsX0_priceAsked := goodIn_r _ [31, 32, 33, 34, 35, 16, 36, 18, 53, 54, 55, 56, 57, 58, 59, 60] (by decide +kernel) (by decide +kernel)
set_option maxRecDepth 20000 in
theorem gX3_bid_X0_priceAsked : GoodIn wsX3_bid (wsV RX3 199 RX0 yX0_priceAsked wsX0_priceAsked) := goodIn_app (goodIn_of _ (by decide +kernel)) ggX3_bid_X0_priceAsked
set_option maxRecDepth 20000 in
theorem ggX3_bid_X0_enterBid : GoodIn wsX3_bid wsX0_enterBid := goodIn_r _ [40, 32, 33, 34, 35, 16, 36, 18, 53, 54, 55, 56, 57, 58, 59, 60] (by decide +kernel) (by decide +kernel)
set_option maxRecDepth 20000 in
theorem gX3_bid_X0_enterBid : GoodIn wsX3_bid (wsV RX3 204 RX0 yX0_enterBid wsX0_enterBid) := goodIn_app (goodIn_of _ (by decide +kernel)) ggX3_bid_X0_enterBid
set_option maxRecDepth 20000 in
theorem ggX3_give_X3_requireHaul : GoodIn wsX3_give wsX3_requireHaul := goodIn_ca (goodIn_r _ [8, 9, 10, 3, 11, 12, 13, 14, 15, 16, 44, 45, 46, 47, 48, 49, 50, 51, 52, 53, 54, 55, 56, 57, 58, 59, 60, 61, 62, 63] (by decide +kernel) (by decide +kernel)) (goodIn_sub (fun _ h => List.mem_cons_of_mem _ (List.mem_append_right _ h)) (by decide +kernel))
set_option maxRecDepth 20000 in
theorem gX3_give_X3_requireHaul : GoodIn wsX3_give (wsV RX3 189 RX3 yX3_requireHaul wsX3_requireHaul) := goodIn_app (goodIn_of _ (by decide +kernel)) ggX3_give_X3_requireHaul
set_option maxRecDepth 20000 in
theorem ggX3_give_X3_requireOffered : GoodIn wsX3_give wsX3_requireOffered := goodIn_ca (goodIn_r _ [20, 1, 2, 3, 21, 22, 23, 14, 24, 16, 25, 44, 45, 46, 47, 48, 49, 50, 51, 52, 53, 54, 55, 56, 57, 58, 59, 60, 61, 62, 63] (by decide +kernel) (by decide +kernel)) (goodIn_sub (fun _ h => List.mem_cons_of_mem _ (List.mem_append_left _ (List.mem_append_right _ h))) (by decide +kernel))
set_option maxRecDepth 20000 in
theorem gX3_give_X3_requireOffered : GoodIn wsX3_give (wsV RX3 196 RX3 yX3_requireOffered wsX3_requireOffered) := goodIn_app (goodIn_of _ (by decide +kernel)) ggX3_give_X3_requireOffered
set_option maxRecDepth 20000 in
theorem ggX3_give_X0_cheapestHaulier : GoodIn wsX3_give wsX0_cheapestHaulier := goodIn_r _ [29, 30, 31, 32, 14, 33, 34, 35, 36, 37, 38, 16, 56, 57, 58, 59, 60, 61, 62, 63] (by decide +kernel) (by decide +kernel)
set_option maxRecDepth 20000 in
theorem gX3_give_X0_cheapestHaulier : GoodIn wsX3_give (wsV RX3 208 RX0 yX0_cheapestHaulier wsX0_cheapestHaulier) := goodIn_app (goodIn_of _ (by decide +kernel)) ggX3_give_X0_cheapestHaulier
set_option maxRecDepth 20000 in
theorem ggX3_give_X0_giveTo : GoodIn wsX3_give wsX0_giveTo := goodIn_r _ [42, 25, 43, 35, 36, 37, 14, 38, 16, 30, 31, 32, 33, 34, 56, 57, 58, 59, 60, 61, 62, 63] (by decide +kernel) (by decide +kernel)
set_option maxRecDepth 20000 in
theorem gX3_give_X0_giveTo : GoodIn wsX3_give (wsV RX3 213 RX0 yX0_giveTo wsX0_giveTo) := goodIn_app (goodIn_of _ (by decide +kernel)) ggX3_give_X0_giveTo
set_option maxRecDepth 20000 in
theorem ggX3_load_X3_requireFullCrane : GoodIn wsX3_load wsX3_requireFullCrane := goodIn_ca (goodIn_r _ [9, 1, 2, 4, 33, 34, 35, 36, 37, 38, 39, 40, 41, 42, 43, 44] (by decide +kernel) (by decide +kernel)) (goodIn_sub (fun _ h => List.mem_cons_of_mem _ (List.mem_append_right _ h)) (by decide +kernel))
set_option maxRecDepth 20000 in
theorem gX3_load_X3_requireFullCrane : GoodIn wsX3_load (wsV RX3 104 RX3 yX3_requireFullCrane wsX3_requireFullCrane) := goodIn_app (goodIn_of _ (by decide +kernel)) ggX3_load_X3_requireFullCrane
set_option maxRecDepth 20000 in
theorem ggX3_load_X0_openHaulOf : GoodIn wsX3_load wsX0_openHaulOf := goodIn_r _ [14, 15, 16, 17, 18, 19, 13, 20, 21, 22, 23, 24, 25, 45, 46, 47, 48, 49, 50, 51, 52] (by decide +kernel) (by decide +kernel)
set_option maxRecDepth 20000 in
theorem gX3_load_X0_openHaulOf : GoodIn wsX3_load (wsV RX3 179 RX0 yX0_openHaulOf wsX0_openHaulOf) := goodIn_app (goodIn_of _ (by decide +kernel)) ggX3_load_X0_openHaulOf
set_option maxRecDepth 20000 in
theorem ggX3_load_X0_stateOf : GoodIn wsX3_load wsX0_stateOf := goodIn_r _ [24, 15, 25, 45, 46, 47, 48, 49, 50, 51, 52] (by decide +kernel) (by decide +kernel)
set_option maxRecDepth 20000 in
theorem gX3_load_X0_stateOf : GoodIn wsX3_load (wsV RX3 216 RX0 yX0_stateOf wsX0_stateOf) := goodIn_app (goodIn_of _ (by decide +kernel)) ggX3_load_X0_stateOf
set_option maxRecDepth 20000 in
theorem ggX3_load_X0_finish : GoodIn wsX3_load wsX0_finish := goodIn_r _ [30, 15, 25, 31, 32, 45, 46, 47, 48, 49, 50, 51, 52] (by decide +kernel) (by decide +kernel)
set_option maxRecDepth 20000 in
theorem gX3_load_X0_finish : GoodIn wsX3_load (wsV RX3 221 RX0 yX0_finish wsX0_finish) := goodIn_app (goodIn_of _ (by decide +kernel)) ggX3_load_X0_finish
set_option maxRecDepth 20000 in
theorem ggX3_state_X3_requireHaul : GoodIn wsX3_state wsX3_requireHaul := goodIn_ca (goodIn_r _ [6, 7, 8, 1, 9, 10, 11, 12, 13, 14, 20, 21, 22, 23, 24, 25, 26, 27, 28, 29, 30, 31, 32, 33, 34, 35, 36, 37, 38, 39] (by decide +kernel) (by decide +kernel)) (goodIn_sub (fun _ h => List.mem_cons_of_mem _ (List.mem_append_right _ h)) (by decide +kernel))
set_option maxRecDepth 20000 in
theorem gX3_state_X3_requireHaul : GoodIn wsX3_state (wsV RX3 189 RX3 yX3_requireHaul wsX3_requireHaul) := goodIn_app (goodIn_of _ (by decide +kernel)) ggX3_state_X3_requireHaul
set_option maxRecDepth 20000 in
theorem ggX3_state_X0_stateOf : GoodIn wsX3_state wsX0_stateOf := goodIn_r _ [18, 14, 19, 32, 33, 34, 35, 36, 37, 38, 39] (by decide +kernel) (by decide +kernel)
set_option maxRecDepth 20000 in
theorem gX3_state_X0_stateOf : GoodIn wsX3_state (wsV RX3 216 RX0 yX0_stateOf wsX0_stateOf) := goodIn_app (goodIn_of _ (by decide +kernel)) ggX3_state_X0_stateOf
set_option maxRecDepth 20000 in
theorem ggX3_storm_X3_mostPlaces : GoodIn wsX3_storm wsX3_mostPlaces := goodIn_r _ [7, 1, 18, 19, 20, 21, 22, 23, 24, 25, 26, 27, 28, 29] (by decide +kernel) (by decide +kernel)
set_option maxRecDepth 20000 in
theorem gX3_storm_X3_mostPlaces : GoodIn wsX3_storm (wsV RX3 120 RX3 yX3_mostPlaces wsX3_mostPlaces) := goodIn_app (goodIn_of _ (by decide +kernel)) ggX3_storm_X3_mostPlaces
set_option maxRecDepth 20000 in
theorem ggX3_storm_X1_cratesAbove : GoodIn wsX3_storm wsX1_cratesAbove := goodIn_r _ [12, 13, 14, 15, 16, 17, 30, 31, 32] (by decide +kernel) (by decide +kernel)
set_option maxRecDepth 20000 in
theorem gX3_storm_X1_cratesAbove : GoodIn wsX3_storm (wsV RX3 224 RX1 yX1_cratesAbove wsX1_cratesAbove) := goodIn_app (goodIn_of _ (by decide +kernel)) ggX3_storm_X1_cratesAbove
set_option maxRecDepth 20000 in
theorem ggX3_pass_X3_endDay : GoodIn wsX3_pass wsX3_endDay := goodIn_r _ [11, 6, 12, 13, 5, 14, 15, 16, 17, 18, 19, 20, 21, 22, 23, 24, 25, 26, 27, 28, 29, 30, 31, 32, 33, 34, 35, 36, 37, 38, 39, 40, 41, 42, 43, 44, 45, 46, 47, 48, 49, 50, 51, 52, 53, 54, 55, 56, 57, 58, 59, 60] (by decide +kernel) (by decide +kernel)
set_option maxRecDepth 20000 in
theorem gX3_pass_X3_endDay : GoodIn wsX3_pass (wsV RX3 231 RX3 yX3_endDay wsX3_endDay) := goodIn_app (goodIn_of _ (by decide +kernel)) ggX3_pass_X3_endDay
set_option maxRecDepth 20000 in
theorem ggX3_balance_X2_paidInAll : GoodIn wsX3_balance wsX2_paidInAll := goodIn_r _ [8, 9, 33, 34, 35, 36, 37] (by decide +kernel) (by decide +kernel)
set_option maxRecDepth 20000 in
theorem gX3_balance_X2_paidInAll : GoodIn wsX3_balance (wsV RX3 174 RX2 yX2_paidInAll wsX2_paidInAll) := goodIn_app (goodIn_of _ (by decide +kernel)) ggX3_balance_X2_paidInAll
set_option maxRecDepth 20000 in
theorem ggX3_balance_X0_pricesOfDone : GoodIn wsX3_balance wsX0_pricesOfDone := goodIn_r _ [14, 15, 38, 39, 40, 41, 42, 43, 44, 45] (by decide +kernel) (by decide +kernel)
set_option maxRecDepth 20000 in
theorem gX3_balance_X0_pricesOfDone : GoodIn wsX3_balance (wsV RX3 234 RX0 yX0_pricesOfDone wsX0_pricesOfDone) := goodIn_app (goodIn_of _ (by decide +kernel)) ggX3_balance_X0_pricesOfDone
set_option maxRecDepth 20000 in
theorem ggX3_balance_X0_owedForLate : GoodIn wsX3_balance wsX0_owedForLate := goodIn_r _ [19, 20, 38, 39, 40, 41, 42, 43, 44, 45] (by decide +kernel) (by decide +kernel)
set_option maxRecDepth 20000 in
theorem gX3_balance_X0_owedForLate : GoodIn wsX3_balance (wsV RX3 237 RX0 yX0_owedForLate wsX0_owedForLate) := goodIn_app (goodIn_of _ (by decide +kernel)) ggX3_balance_X0_owedForLate
set_option maxRecDepth 20000 in
theorem ggX3_requireHaul_X0_number : GoodIn wsX3_requireHaul wsX0_number := goodIn_r _ [8, 9, 22, 23, 24, 25, 26, 27, 28, 29] (by decide +kernel) (by decide +kernel)
set_option maxRecDepth 20000 in
theorem gX3_requireHaul_X0_number : GoodIn wsX3_requireHaul (wsV RX3 184 RX0 yX0_number wsX0_number) := goodIn_app (goodIn_of _ (by decide +kernel)) ggX3_requireHaul_X0_number
set_option maxRecDepth 20000 in
theorem ggX3_requireOffered_X0_stateOf : GoodIn wsX3_requireOffered wsX0_stateOf := goodIn_r _ [8, 9, 10, 23, 24, 25, 26, 27, 28, 29, 30] (by decide +kernel) (by decide +kernel)
set_option maxRecDepth 20000 in
theorem gX3_requireOffered_X0_stateOf : GoodIn wsX3_requireOffered (wsV RX3 216 RX0 yX0_stateOf wsX0_stateOf) := goodIn_app (goodIn_of _ (by decide +kernel)) ggX3_requireOffered_X0_stateOf
set_option maxRecDepth 20000 in
theorem ggX3_requireInStack_X1_stackHolding : GoodIn wsX3_requireInStack wsX1_stackHolding := goodIn_r _ [8, 9, 10, 23, 24, 25] (by decide +kernel) (by decide +kernel)
set_option maxRecDepth 20000 in
theorem gX3_requireInStack_X1_stackHolding : GoodIn wsX3_requireInStack (wsV RX3 135 RX1 yX1_stackHolding wsX1_stackHolding) := goodIn_app (goodIn_of _ (by decide +kernel)) ggX3_requireInStack_X1_stackHolding
set_option maxRecDepth 20000 in
theorem ggX3_requireRoom_X3_mostPlaces : GoodIn wsX3_requireRoom wsX3_mostPlaces := goodIn_r _ [8, 9, 30, 31, 32, 33, 34, 35, 36, 37, 38, 39, 40, 41] (by decide +kernel) (by decide +kernel)
set_option maxRecDepth 20000 in
theorem gX3_requireRoom_X3_mostPlaces : GoodIn wsX3_requireRoom (wsV RX3 120 RX3 yX3_mostPlaces wsX3_mostPlaces) := goodIn_app (goodIn_of _ (by decide +kernel)) ggX3_requireRoom_X3_mostPlaces
set_option maxRecDepth 20000 in
theorem ggX3_requireRoom_X1_canTake : GoodIn wsX3_requireRoom wsX1_canTake := goodIn_r _ [14, 15, 16, 17, 13, 18, 19, 20, 21, 22, 23, 24, 25, 26, 27, 28, 29, 42, 43, 44] (by decide +kernel) (by decide +kernel)
set_option maxRecDepth 20000 in
theorem gX3_requireRoom_X1_canTake : GoodIn wsX3_requireRoom (wsV RX3 256 RX1 yX1_canTake wsX1_canTake) := goodIn_app (goodIn_of _ (by decide +kernel)) ggX3_requireRoom_X1_canTake
set_option maxRecDepth 20000 in
theorem ggX3_payWords_X1_topOf : GoodIn wsX3_payWords wsX1_topOf := goodIn_r _ [9, 10, 11, 12, 13, 8, 14, 15, 46, 47, 48] (by decide +kernel) (by decide +kernel)
set_option maxRecDepth 20000 in
theorem gX3_payWords_X1_topOf : GoodIn wsX3_payWords (wsV RX3 262 RX1 yX1_topOf wsX1_topOf) := goodIn_app (goodIn_of _ (by decide +kernel)) ggX3_payWords_X1_topOf
set_option maxRecDepth 20000 in
theorem ggX3_payWords_X2_payShown : GoodIn wsX3_payWords wsX2_payShown := goodIn_r _ [20, 21, 22, 23, 24, 25, 26, 27, 19, 28, 29, 30, 31, 32, 33, 49, 50, 51, 52, 53] (by decide +kernel) (by decide +kernel)
set_option maxRecDepth 20000 in
theorem gX3_payWords_X2_payShown : GoodIn wsX3_payWords (wsV RX3 265 RX2 yX2_payShown wsX2_payShown) := goodIn_app (goodIn_of _ (by decide +kernel)) ggX3_payWords_X2_payShown
set_option maxRecDepth 20000 in
theorem ggX3_endDay_X1_feeOfOneDay : GoodIn wsX3_endDay wsX1_feeOfOneDay := goodIn_r _ [10, 11, 41, 42, 43] (by decide +kernel) (by decide +kernel)
set_option maxRecDepth 20000 in
theorem gX3_endDay_X1_feeOfOneDay : GoodIn wsX3_endDay (wsV RX3 269 RX1 yX1_feeOfOneDay wsX1_feeOfOneDay) := goodIn_app (goodIn_of _ (by decide +kernel)) ggX3_endDay_X1_feeOfOneDay
set_option maxRecDepth 20000 in
theorem ggX3_endDay_X0_endDay : GoodIn wsX3_endDay wsX0_endDay := goodIn_r _ [16, 17, 18, 19, 20, 21, 22, 23, 15, 24, 25, 26, 27, 28, 44, 45, 46, 47, 48, 49, 50, 51] (by decide +kernel) (by decide +kernel)
set_option maxRecDepth 20000 in
theorem gX3_endDay_X0_endDay : GoodIn wsX3_endDay (wsV RX3 272 RX0 yX0_endDay wsX0_endDay) := goodIn_app (goodIn_of _ (by decide +kernel)) ggX3_endDay_X0_endDay
set_option maxRecDepth 20000 in
theorem ggX3_areInStacks_J6_bitCount_0f7a4 : GoodIn wsX3_areInStacks wsJ6_bitCount_0f7a4 := goodIn_r _ [5, 6, 7, 8] (by decide +kernel) (by decide +kernel)
set_option maxRecDepth 20000 in
theorem gX3_areInStacks_J6_bitCount_0f7a4 : GoodIn wsX3_areInStacks (va_wsS RX3 144 yJ6_bitCount_0f7a4 wsJ6_bitCount_0f7a4) := goodIn_app (goodIn_of _ (by decide +kernel)) ggX3_areInStacks_J6_bitCount_0f7a4
set_option maxRecDepth 20000 in
theorem ggX3_areInStacks_X3_contains : GoodIn wsX3_areInStacks wsX3_contains := goodIn_r _ [12] (by decide +kernel) (by decide +kernel)
set_option maxRecDepth 20000 in
theorem gX3_areInStacks_X3_contains : GoodIn wsX3_areInStacks (va_wsS RX3 274 yX3_contains wsX3_contains) := goodIn_app (goodIn_of _ (by decide +kernel)) ggX3_areInStacks_X3_contains
set_option maxRecDepth 20000 in
theorem ggX3_areInStacks_X1_stackHolding : GoodIn wsX3_areInStacks wsX1_stackHolding := goodIn_r _ [17, 18, 19, 32, 33, 34] (by decide +kernel) (by decide +kernel)
set_option maxRecDepth 20000 in
theorem gX3_areInStacks_X1_stackHolding : GoodIn wsX3_areInStacks (wsV RX3 135 RX1 yX1_stackHolding wsX1_stackHolding) := goodIn_app (goodIn_of _ (by decide +kernel)) ggX3_areInStacks_X1_stackHolding
set_option maxRecDepth 20000 in
theorem ggX3_liftsInOrder_X1_copyFrom : GoodIn wsX3_liftsInOrder wsX1_copyFrom := goodIn_r _ [7, 8, 9, 10, 11, 12, 13, 14, 82, 83, 84] (by decide +kernel) (by decide +kernel)
set_option maxRecDepth 20000 in
theorem gX3_liftsInOrder_X1_copyFrom : GoodIn wsX3_liftsInOrder (wsV RX3 116 RX1 yX1_copyFrom wsX1_copyFrom) := goodIn_app (goodIn_of _ (by decide +kernel)) ggX3_liftsInOrder_X1_copyFrom
set_option maxRecDepth 20000 in
theorem ggX3_liftsInOrder_J6_bitCount_0f7a4 : GoodIn wsX3_liftsInOrder wsJ6_bitCount_0f7a4 := goodIn_r _ [18, 19, 20, 21] (by decide +kernel) (by decide +kernel)
set_option maxRecDepth 20000 in
theorem gX3_liftsInOrder_J6_bitCount_0f7a4 : GoodIn wsX3_liftsInOrder (va_wsS RX3 144 yJ6_bitCount_0f7a4 wsJ6_bitCount_0f7a4) := goodIn_app (goodIn_of _ (by decide +kernel)) ggX3_liftsInOrder_J6_bitCount_0f7a4
set_option maxRecDepth 20000 in
theorem ggX3_liftsInOrder_X3_memberOf : GoodIn wsX3_liftsInOrder wsX3_memberOf := goodIn_r _ [25, 26, 27, 24, 28] (by decide +kernel) (by decide +kernel)
set_option maxRecDepth 20000 in
theorem gX3_liftsInOrder_X3_memberOf : GoodIn wsX3_liftsInOrder (va_wsS RX3 278 yX3_memberOf wsX3_memberOf) := goodIn_app (goodIn_of _ (by decide +kernel)) ggX3_liftsInOrder_X3_memberOf
set_option maxRecDepth 20000 in
theorem ggX3_liftsInOrder_X3_mostPlaces : GoodIn wsX3_liftsInOrder wsX3_mostPlaces := goodIn_r _ [32, 33, 70, 71, 72, 73, 74, 75, 76, 77, 78, 79, 80, 81] (by decide +kernel) (by decide +kernel)
set_option maxRecDepth 20000 in
theorem gX3_liftsInOrder_X3_mostPlaces : GoodIn wsX3_liftsInOrder (wsV RX3 120 RX3 yX3_mostPlaces wsX3_mostPlaces) := goodIn_app (goodIn_of _ (by decide +kernel)) ggX3_liftsInOrder_X3_mostPlaces
set_option maxRecDepth 20000 in
theorem ggX3_liftsInOrder_X1_digOut : GoodIn wsX3_liftsInOrder wsX1_digOut := goodIn_r _ [37, 38, 39, 40, 6, 41, 8, 13, 42, 43, 44, 45, 46, 47, 48, 49, 50, 51, 52, 53, 54, 55, 56, 57, 14, 58, 59, 60, 61, 62, 63, 64, 65, 66, 67, 68, 69, 82, 83, 84] (by decide +kernel) (by decide +kernel)
set_option maxRecDepth 20000 in
theorem gX3_liftsInOrder_X1_digOut : GoodIn wsX3_liftsInOrder (wsV RX3 124 RX1 yX1_digOut wsX1_digOut) := goodIn_app (goodIn_of _ (by decide +kernel)) ggX3_liftsInOrder_X1_digOut
set_option maxRecDepth 20000 in
theorem ggX3_memberOf_X3_contains : GoodIn wsX3_memberOf wsX3_contains := goodIn_r _ [4] (by decide +kernel) (by decide +kernel)
set_option maxRecDepth 20000 in
theorem gX3_memberOf_X3_contains : GoodIn wsX3_memberOf (va_wsS RX3 274 yX3_contains wsX3_contains) := goodIn_app (goodIn_of _ (by decide +kernel)) ggX3_memberOf_X3_contains
set_option maxRecDepth 20000 in
theorem ggX4_isStack_X4_in : GoodIn wsX4_isStack wsX4_in := goodIn_r _ [4] (by decide +kernel) (by decide +kernel)
set_option maxRecDepth 20000 in
theorem gX4_isStack_X4_in : GoodIn wsX4_isStack (va_wsS RX4 57 yX4_in wsX4_in) := goodIn_app (goodIn_of _ (by decide +kernel)) ggX4_isStack_X4_in
set_option maxRecDepth 20000 in
theorem ggX4_isCrate_X4_in : GoodIn wsX4_isCrate wsX4_in := goodIn_r _ [5] (by decide +kernel) (by decide +kernel)
set_option maxRecDepth 20000 in
theorem gX4_isCrate_X4_in : GoodIn wsX4_isCrate (va_wsS RX4 57 yX4_in wsX4_in) := goodIn_app (goodIn_of _ (by decide +kernel)) ggX4_isCrate_X4_in
set_option maxRecDepth 20000 in
theorem ggX4_isHaul_X4_in : GoodIn wsX4_isHaul wsX4_in := goodIn_r _ [5] (by decide +kernel) (by decide +kernel)
set_option maxRecDepth 20000 in
theorem gX4_isHaul_X4_in : GoodIn wsX4_isHaul (va_wsS RX4 57 yX4_in wsX4_in) := goodIn_app (goodIn_of _ (by decide +kernel)) ggX4_isHaul_X4_in
set_option maxRecDepth 20000 in
theorem ggX4_canPut_X4_most : GoodIn wsX4_canPut wsX4_most := goodIn_r _ [8, 9, 10, 11, 12, 13, 14, 15, 16, 17, 18, 19, 20, 21, 22, 23, 24, 25, 26, 27, 28, 29, 30, 31, 32] (by decide +kernel) (by decide +kernel)
set_option maxRecDepth 20000 in
theorem gX4_canPut_X4_most : GoodIn wsX4_canPut (wsV RX4 71 RX4 yX4_most wsX4_most) := goodIn_app (goodIn_of _ (by decide +kernel)) ggX4_canPut_X4_most
set_option maxRecDepth 20000 in
theorem ggX4_isOnLids_X4_topOf : GoodIn wsX4_isOnLids wsX4_topOf := goodIn_r _ [8, 9, 2, 10, 11, 12, 13, 14, 15, 16, 17, 18, 19, 20, 21, 22, 23, 24, 25, 26, 27, 28, 29, 30, 31, 32] (by decide +kernel) (by decide +kernel)
set_option maxRecDepth 20000 in
theorem gX4_isOnLids_X4_topOf : GoodIn wsX4_isOnLids (wsV RX4 75 RX4 yX4_topOf wsX4_topOf) := goodIn_app (goodIn_of _ (by decide +kernel)) ggX4_isOnLids_X4_topOf
set_option maxRecDepth 20000 in
theorem ggX4_payWords_X4_isOnLids : GoodIn wsX4_payWords wsX4_isOnLids := goodIn_r _ [9, 10, 2, 11, 12, 13, 14, 8, 15, 16, 21, 22, 23, 24, 25, 26, 27, 28, 29, 30, 31, 32, 33, 34, 35, 36, 37, 38, 39, 40, 41, 42, 43] (by decide +kernel) (by decide +kernel)
set_option maxRecDepth 20000 in
theorem gX4_payWords_X4_isOnLids : GoodIn wsX4_payWords (wsV RX4 82 RX4 yX4_isOnLids wsX4_isOnLids) := goodIn_app (goodIn_of _ (by decide +kernel)) ggX4_payWords_X4_isOnLids
set_option maxRecDepth 20000 in
theorem ggX4_payWords_X4_sizeOf : GoodIn wsX4_payWords wsX4_sizeOf := goodIn_r _ [20, 10, 21, 22, 23, 24, 25, 26, 27, 28, 29, 30, 31, 32, 33, 34, 35, 36, 37, 38, 39, 40, 41, 42, 43] (by decide +kernel) (by decide +kernel)
set_option maxRecDepth 20000 in
theorem gX4_payWords_X4_sizeOf : GoodIn wsX4_payWords (wsV RX4 89 RX4 yX4_sizeOf wsX4_sizeOf) := goodIn_app (goodIn_of _ (by decide +kernel)) ggX4_payWords_X4_sizeOf
set_option maxRecDepth 20000 in
theorem ggX4_arrive_X4_in : GoodIn wsX4_arrive wsX4_in := goodIn_r _ [7] (by decide +kernel) (by decide +kernel)
set_option maxRecDepth 20000 in
theorem gX4_arrive_X4_in : GoodIn wsX4_arrive (va_wsS RX4 57 yX4_in wsX4_in) := goodIn_app (goodIn_of _ (by decide +kernel)) ggX4_arrive_X4_in
set_option maxRecDepth 20000 in
theorem ggX4_arrive_X4_isStack : GoodIn wsX4_arrive wsX4_isStack := goodIn_r _ [10, 4, 5, 6, 7] (by decide +kernel) (by decide +kernel)
set_option maxRecDepth 20000 in
theorem gX4_arrive_X4_isStack : GoodIn wsX4_arrive (va_wsS RX4 92 yX4_isStack wsX4_isStack) := goodIn_app (goodIn_of _ (by decide +kernel)) ggX4_arrive_X4_isStack
set_option maxRecDepth 20000 in
theorem ggX4_arrive_X4_canPut : GoodIn wsX4_arrive wsX4_canPut := goodIn_r _ [14, 15, 2, 16, 17, 18, 19, 6, 20, 21, 51, 52, 53, 54, 55, 56, 57, 58, 59, 60, 61, 62, 63, 64, 65, 66, 67, 68, 69, 70, 71, 72, 73] (by decide +kernel) (by decide +kernel)
set_option maxRecDepth 20000 in
theorem gX4_arrive_X4_canPut : GoodIn wsX4_arrive (wsV RX4 96 RX4 yX4_canPut wsX4_canPut) := goodIn_app (goodIn_of _ (by decide +kernel)) ggX4_arrive_X4_canPut
set_option maxRecDepth 20000 in
theorem ggX4_arrive_X4_goesWell : GoodIn wsX4_arrive wsX4_goesWell := goodIn_r _ [25, 26, 51, 52, 53, 54, 55, 56, 57, 58, 59, 60, 61, 62, 63, 64, 65, 66, 67, 68, 69, 70, 71, 72, 73] (by decide +kernel) (by decide +kernel)
set_option maxRecDepth 20000 in
theorem gX4_arrive_X4_goesWell : GoodIn wsX4_arrive (wsV RX4 99 RX4 yX4_goesWell wsX4_goesWell) := goodIn_app (goodIn_of _ (by decide +kernel)) ggX4_arrive_X4_goesWell
set_option maxRecDepth 20000 in
theorem ggX4_arrive_X4_put : GoodIn wsX4_arrive wsX4_put := goodIn_r _ [30, 16, 15, 51, 52, 53, 54, 55, 56, 57, 58, 59, 60, 61, 62, 63, 64, 65, 66, 67, 68, 69, 70, 71, 72, 73] (by decide +kernel) (by decide +kernel)
set_option maxRecDepth 20000 in
theorem gX4_arrive_X4_put : GoodIn wsX4_arrive (wsV RX4 102 RX4 yX4_put wsX4_put) := goodIn_app (goodIn_of _ (by decide +kernel)) ggX4_arrive_X4_put
set_option maxRecDepth 20000 in
theorem ggX4_arrive_X4_payWords : GoodIn wsX4_arrive wsX4_payWords := goodIn_r _ [34, 35, 15, 36, 37, 38, 39, 40, 6, 41, 42, 3, 43, 44, 45, 46, 16, 47, 48, 49, 50, 51, 52, 53, 54, 55, 56, 57, 58, 59, 60, 61, 62, 63, 64, 65, 66, 67, 68, 69, 70, 71, 72, 73] (by decide +kernel) (by decide +kernel)
set_option maxRecDepth 20000 in
theorem gX4_arrive_X4_payWords : GoodIn wsX4_arrive (wsV RX4 106 RX4 yX4_payWords wsX4_payWords) := goodIn_app (goodIn_of _ (by decide +kernel)) ggX4_arrive_X4_payWords
set_option maxRecDepth 20000 in
theorem ggX4_lift_X4_isStack : GoodIn wsX4_lift wsX4_isStack := goodIn_r _ [7, 8, 9, 6, 10] (by decide +kernel) (by decide +kernel)
set_option maxRecDepth 20000 in
theorem gX4_lift_X4_isStack : GoodIn wsX4_lift (va_wsS RX4 92 yX4_isStack wsX4_isStack) := goodIn_app (goodIn_of _ (by decide +kernel)) ggX4_lift_X4_isStack
set_option maxRecDepth 20000 in
theorem ggX4_lift_X4_goesWell : GoodIn wsX4_lift wsX4_goesWell := goodIn_r _ [14, 15, 38, 39, 40, 41, 42, 43, 44, 45, 46, 47, 48, 49, 50, 51, 52, 53, 54, 55, 56, 57, 58, 59, 60] (by decide +kernel) (by decide +kernel)
set_option maxRecDepth 20000 in
theorem gX4_lift_X4_goesWell : GoodIn wsX4_lift (wsV RX4 99 RX4 yX4_goesWell wsX4_goesWell) := goodIn_app (goodIn_of _ (by decide +kernel)) ggX4_lift_X4_goesWell
set_option maxRecDepth 20000 in
theorem ggX4_lift_X4_topOf : GoodIn wsX4_lift wsX4_topOf := goodIn_r _ [19, 20, 1, 38, 39, 40, 41, 42, 43, 44, 45, 46, 47, 48, 49, 50, 51, 52, 53, 54, 55, 56, 57, 58, 59, 60] (by decide +kernel) (by decide +kernel)
set_option maxRecDepth 20000 in
theorem gX4_lift_X4_topOf : GoodIn wsX4_lift (wsV RX4 75 RX4 yX4_topOf wsX4_topOf) := goodIn_app (goodIn_of _ (by decide +kernel)) ggX4_lift_X4_topOf
set_option maxRecDepth 20000 in
theorem ggX4_lift_X4_payWords : GoodIn wsX4_lift wsX4_payWords := goodIn_r _ [24, 25, 1, 26, 27, 28, 29, 30, 6, 31, 32, 33, 16, 17, 18, 19, 20, 34, 35, 36, 37, 38, 39, 40, 41, 42, 43, 44, 45, 46, 47, 48, 49, 50, 51, 52, 53, 54, 55, 56, 57, 58, 59, 60] (by decide +kernel) (by decide +kernel)
set_option maxRecDepth 20000 in
theorem gX4_lift_X4_payWords : GoodIn wsX4_lift (wsV RX4 106 RX4 yX4_payWords wsX4_payWords) := goodIn_app (goodIn_of _ (by decide +kernel)) ggX4_lift_X4_payWords
set_option maxRecDepth 20000 in
theorem ggX4_drop_X4_isStack : GoodIn wsX4_drop wsX4_isStack := goodIn_r _ [7, 8, 9, 6, 10] (by decide +kernel) (by decide +kernel)
set_option maxRecDepth 20000 in
theorem gX4_drop_X4_isStack : GoodIn wsX4_drop (va_wsS RX4 92 yX4_isStack wsX4_isStack) := goodIn_app (goodIn_of _ (by decide +kernel)) ggX4_drop_X4_isStack
set_option maxRecDepth 20000 in
theorem ggX4_drop_X4_canPut : GoodIn wsX4_drop wsX4_canPut := goodIn_r _ [14, 3, 2, 15, 16, 17, 18, 6, 19, 20, 51, 52, 53, 54, 55, 56, 57, 58, 59, 60, 61, 62, 63, 64, 65, 66, 67, 68, 69, 70, 71, 72, 73] (by decide +kernel) (by decide +kernel)
set_option maxRecDepth 20000 in
theorem gX4_drop_X4_canPut : GoodIn wsX4_drop (wsV RX4 96 RX4 yX4_canPut wsX4_canPut) := goodIn_app (goodIn_of _ (by decide +kernel)) ggX4_drop_X4_canPut
set_option maxRecDepth 20000 in
theorem ggX4_drop_X4_goesWell : GoodIn wsX4_drop wsX4_goesWell := goodIn_r _ [24, 25, 51, 52, 53, 54, 55, 56, 57, 58, 59, 60, 61, 62, 63, 64, 65, 66, 67, 68, 69, 70, 71, 72, 73] (by decide +kernel) (by decide +kernel)
set_option maxRecDepth 20000 in
theorem gX4_drop_X4_goesWell : GoodIn wsX4_drop (wsV RX4 99 RX4 yX4_goesWell wsX4_goesWell) := goodIn_app (goodIn_of _ (by decide +kernel)) ggX4_drop_X4_goesWell
set_option maxRecDepth 20000 in
theorem ggX4_drop_X4_put : GoodIn wsX4_drop wsX4_put := goodIn_r _ [29, 15, 3, 51, 52, 53, 54, 55, 56, 57, 58, 59, 60, 61, 62, 63, 64, 65, 66, 67, 68, 69, 70, 71, 72, 73] (by decide +kernel) (by decide +kernel)
set_option maxRecDepth 20000 in
theorem gX4_drop_X4_put : GoodIn wsX4_drop (wsV RX4 102 RX4 yX4_put wsX4_put) := goodIn_app (goodIn_of _ (by decide +kernel)) ggX4_drop_X4_put
set_option maxRecDepth 20000 in
theorem ggX4_drop_X4_payWords : GoodIn wsX4_drop wsX4_payWords := goodIn_r _ [33, 34, 3, 35, 36, 37, 38, 39, 6, 40, 41, 42, 43, 44, 45, 46, 15, 47, 48, 49, 50, 51, 52, 53, 54, 55, 56, 57, 58, 59, 60, 61, 62, 63, 64, 65, 66, 67, 68, 69, 70, 71, 72, 73] (by decide +kernel) (by decide +kernel)
set_option maxRecDepth 20000 in
theorem gX4_drop_X4_payWords : GoodIn wsX4_drop (wsV RX4 106 RX4 yX4_payWords wsX4_payWords) := goodIn_app (goodIn_of _ (by decide +kernel)) ggX4_drop_X4_payWords
set_option maxRecDepth 20000 in
theorem ggX4_canTry_X4_most : GoodIn wsX4_canTry wsX4_most := goodIn_r _ [8, 9, 10, 11, 12, 13, 14, 15, 16, 17, 18, 19, 20, 21, 22, 23, 24, 25, 26, 27, 28, 29, 30, 31, 32] (by decide +kernel) (by decide +kernel)
set_option maxRecDepth 20000 in
theorem gX4_canTry_X4_most : GoodIn wsX4_canTry (wsV RX4 71 RX4 yX4_most wsX4_most) := goodIn_app (goodIn_of _ (by decide +kernel)) ggX4_canTry_X4_most
set_option maxRecDepth 20000 in
theorem ggX4_digOut_X4_find : GoodIn wsX4_digOut wsX4_find := goodIn_r _ [7, 2, 1, 18, 19, 20, 21, 22, 23, 24, 25, 26, 27, 28, 29, 30, 31, 32, 33, 34, 35, 36, 37, 38, 39, 40] (by decide +kernel) (by decide +kernel)
set_option maxRecDepth 20000 in
theorem gX4_digOut_X4_find : GoodIn wsX4_digOut (wsV RX4 112 RX4 yX4_find wsX4_find) := goodIn_app (goodIn_of _ (by decide +kernel)) ggX4_digOut_X4_find
set_option maxRecDepth 20000 in
theorem ggX4_digOut_X4_canTry : GoodIn wsX4_digOut wsX4_canTry := goodIn_r _ [11, 2, 12, 1, 13, 14, 15, 6, 16, 17, 18, 19, 20, 21, 22, 23, 24, 25, 26, 27, 28, 29, 30, 31, 32, 33, 34, 35, 36, 37, 38, 39, 40] (by decide +kernel) (by decide +kernel)
set_option maxRecDepth 20000 in
theorem gX4_digOut_X4_canTry : GoodIn wsX4_digOut (wsV RX4 115 RX4 yX4_canTry wsX4_canTry) := goodIn_app (goodIn_of _ (by decide +kernel)) ggX4_digOut_X4_canTry
set_option maxRecDepth 20000 in
theorem ggX4_dig_X4_copyYard : GoodIn wsX4_dig wsX4_copyYard := goodIn_r _ [11, 3, 2, 5, 4, 64, 65, 66, 67, 68, 69, 70, 71, 72, 73, 74, 75, 76, 77, 78, 79, 80, 81, 82, 83, 84, 85, 86] (by decide +kernel) (by decide +kernel)
set_option maxRecDepth 20000 in
theorem gX4_dig_X4_copyYard : GoodIn wsX4_dig (wsV RX4 118 RX4 yX4_copyYard wsX4_copyYard) := goodIn_app (goodIn_of _ (by decide +kernel)) ggX4_dig_X4_copyYard
set_option maxRecDepth 20000 in
theorem ggX4_dig_X4_isCrate : GoodIn wsX4_dig wsX4_isCrate := goodIn_r _ [15, 16, 17, 18, 10, 19, 64, 65, 66, 67, 68, 69, 70, 71, 72, 73, 74, 75, 76, 77, 78, 79, 80, 81, 82, 83, 84, 85, 86] (by decide +kernel) (by decide +kernel)
set_option maxRecDepth 20000 in
theorem gX4_dig_X4_isCrate : GoodIn wsX4_dig (wsV RX4 121 RX4 yX4_isCrate wsX4_isCrate) := goodIn_app (goodIn_of _ (by decide +kernel)) ggX4_dig_X4_isCrate
set_option maxRecDepth 20000 in
theorem ggX4_dig_X4_digOut : GoodIn wsX4_dig wsX4_digOut := goodIn_r _ [23, 3, 5, 24, 25, 26, 10, 27, 28, 29, 30, 31, 32, 33, 34, 35, 36, 37, 64, 65, 66, 67, 68, 69, 70, 71, 72, 73, 74, 75, 76, 77, 78, 79, 80, 81, 82, 83, 84, 85, 86] (by decide +kernel) (by decide +kernel)
set_option maxRecDepth 20000 in
theorem gX4_dig_X4_digOut : GoodIn wsX4_dig (wsV RX4 124 RX4 yX4_digOut wsX4_digOut) := goodIn_app (goodIn_of _ (by decide +kernel)) ggX4_dig_X4_digOut
set_option maxRecDepth 20000 in
theorem ggX4_dig_X4_goesWell : GoodIn wsX4_dig wsX4_goesWell := goodIn_r _ [41, 42, 64, 65, 66, 67, 68, 69, 70, 71, 72, 73, 74, 75, 76, 77, 78, 79, 80, 81, 82, 83, 84, 85, 86] (by decide +kernel) (by decide +kernel)
set_option maxRecDepth 20000 in
theorem gX4_dig_X4_goesWell : GoodIn wsX4_dig (wsV RX4 99 RX4 yX4_goesWell wsX4_goesWell) := goodIn_app (goodIn_of _ (by decide +kernel)) ggX4_dig_X4_goesWell
set_option maxRecDepth 20000 in
theorem ggX4_dig_X4_payWords : GoodIn wsX4_dig wsX4_payWords := goodIn_r _ [46, 47, 4, 48, 49, 50, 51, 52, 10, 53, 54, 55, 56, 57, 58, 59, 2, 60, 61, 62, 63, 64, 65, 66, 67, 68, 69, 70, 71, 72, 73, 74, 75, 76, 77, 78, 79, 80, 81, 82, 83, 84, 85, 86] (by decide +kernel) (by decide +kernel)
set_option maxRecDepth 20000 in
theorem gX4_dig_X4_payWords : GoodIn wsX4_dig (wsV RX4 106 RX4 yX4_payWords wsX4_payWords) := goodIn_app (goodIn_of _ (by decide +kernel)) ggX4_dig_X4_payWords
set_option maxRecDepth 20000 in
theorem ggX4_height_X4_isStack : GoodIn wsX4_height wsX4_isStack := goodIn_r _ [5, 6, 7, 4, 8] (by decide +kernel) (by decide +kernel)
set_option maxRecDepth 20000 in
theorem gX4_height_X4_isStack : GoodIn wsX4_height (va_wsS RX4 92 yX4_isStack wsX4_isStack) := goodIn_app (goodIn_of _ (by decide +kernel)) ggX4_height_X4_isStack
set_option maxRecDepth 20000 in
theorem ggX4_height_X4_goesWell : GoodIn wsX4_height wsX4_goesWell := goodIn_r _ [12, 13, 14, 15, 16, 17, 18, 19, 20, 21, 22, 23, 24, 25, 26, 27, 28, 29, 30, 31, 32, 33, 34, 35, 36] (by decide +kernel) (by decide +kernel)
set_option maxRecDepth 20000 in
theorem gX4_height_X4_goesWell : GoodIn wsX4_height (wsV RX4 99 RX4 yX4_goesWell wsX4_goesWell) := goodIn_app (goodIn_of _ (by decide +kernel)) ggX4_height_X4_goesWell
set_option maxRecDepth 20000 in
theorem ggX4_at_X4_isStack : GoodIn wsX4_at wsX4_isStack := goodIn_r _ [6, 7, 8, 5, 9] (by decide +kernel) (by decide +kernel)
set_option maxRecDepth 20000 in
theorem gX4_at_X4_isStack : GoodIn wsX4_at (va_wsS RX4 92 yX4_isStack wsX4_isStack) := goodIn_app (goodIn_of _ (by decide +kernel)) ggX4_at_X4_isStack
set_option maxRecDepth 20000 in
theorem ggX4_at_X4_in : GoodIn wsX4_at wsX4_in := goodIn_r _ [9] (by decide +kernel) (by decide +kernel)
set_option maxRecDepth 20000 in
theorem gX4_at_X4_in : GoodIn wsX4_at (va_wsS RX4 57 yX4_in wsX4_in) := goodIn_app (goodIn_of _ (by decide +kernel)) ggX4_at_X4_in
set_option maxRecDepth 20000 in
theorem ggX4_at_X4_goesWell : GoodIn wsX4_at wsX4_goesWell := goodIn_r _ [13, 14, 15, 16, 17, 18, 19, 20, 21, 22, 23, 24, 25, 26, 27, 28, 29, 30, 31, 32, 33, 34, 35, 36, 37] (by decide +kernel) (by decide +kernel)
set_option maxRecDepth 20000 in
theorem gX4_at_X4_goesWell : GoodIn wsX4_at (wsV RX4 99 RX4 yX4_goesWell wsX4_goesWell) := goodIn_app (goodIn_of _ (by decide +kernel)) ggX4_at_X4_goesWell
set_option maxRecDepth 20000 in
theorem ggX4_stackOf_X4_isCrate : GoodIn wsX4_stackOf wsX4_isCrate := goodIn_r _ [5, 6, 7, 8, 4, 9, 27, 28, 29, 30, 31, 32, 33, 34, 35, 36, 37, 38, 39, 40, 41, 42, 43, 44, 45, 46, 47, 48, 49] (by decide +kernel) (by decide +kernel)
set_option maxRecDepth 20000 in
theorem gX4_stackOf_X4_isCrate : GoodIn wsX4_stackOf (wsV RX4 121 RX4 yX4_isCrate wsX4_isCrate) := goodIn_app (goodIn_of _ (by decide +kernel)) ggX4_stackOf_X4_isCrate
set_option maxRecDepth 20000 in
theorem ggX4_stackOf_X4_goesWell : GoodIn wsX4_stackOf wsX4_goesWell := goodIn_r _ [13, 14, 27, 28, 29, 30, 31, 32, 33, 34, 35, 36, 37, 38, 39, 40, 41, 42, 43, 44, 45, 46, 47, 48, 49] (by decide +kernel) (by decide +kernel)
set_option maxRecDepth 20000 in
theorem gX4_stackOf_X4_goesWell : GoodIn wsX4_stackOf (wsV RX4 99 RX4 yX4_goesWell wsX4_goesWell) := goodIn_app (goodIn_of _ (by decide +kernel)) ggX4_stackOf_X4_goesWell
set_option maxRecDepth 20000 in
theorem ggX4_stackOf_X4_copyYard : GoodIn wsX4_stackOf wsX4_copyYard := goodIn_r _ [18, 19, 20, 21, 22, 27, 28, 29, 30, 31, 32, 33, 34, 35, 36, 37, 38, 39, 40, 41, 42, 43, 44, 45, 46, 47, 48, 49] (by decide +kernel) (by decide +kernel)
set_option maxRecDepth 20000 in
theorem gX4_stackOf_X4_copyYard : GoodIn wsX4_stackOf (wsV RX4 118 RX4 yX4_copyYard wsX4_copyYard) := goodIn_app (goodIn_of _ (by decide +kernel)) ggX4_stackOf_X4_copyYard
set_option maxRecDepth 20000 in
theorem ggX4_stackOf_X4_find : GoodIn wsX4_stackOf wsX4_find := goodIn_r _ [26, 21, 19, 27, 28, 29, 30, 31, 32, 33, 34, 35, 36, 37, 38, 39, 40, 41, 42, 43, 44, 45, 46, 47, 48, 49] (by decide +kernel) (by decide +kernel)
set_option maxRecDepth 20000 in
theorem gX4_stackOf_X4_find : GoodIn wsX4_stackOf (wsV RX4 112 RX4 yX4_find wsX4_find) := goodIn_app (goodIn_of _ (by decide +kernel)) ggX4_stackOf_X4_find
set_option maxRecDepth 20000 in
theorem ggX4_isSet_X4_copyYard : GoodIn wsX4_isSet wsX4_copyYard := goodIn_r _ [6, 7, 8, 9, 10, 21, 22, 23, 24, 25, 26, 27, 28, 29, 30, 31, 32, 33, 34, 35, 36, 37, 38, 39, 40, 41, 42, 43] (by decide +kernel) (by decide +kernel)
set_option maxRecDepth 20000 in
theorem gX4_isSet_X4_copyYard : GoodIn wsX4_isSet (wsV RX4 118 RX4 yX4_copyYard wsX4_copyYard) := goodIn_app (goodIn_of _ (by decide +kernel)) ggX4_isSet_X4_copyYard
set_option maxRecDepth 20000 in
theorem ggX4_isSet_X4_bits : GoodIn wsX4_isSet wsX4_bits := goodIn_r _ [13] (by decide +kernel) (by decide +kernel)
set_option maxRecDepth 20000 in
theorem gX4_isSet_X4_bits : GoodIn wsX4_isSet (va_wsS RX4 128 yX4_bits wsX4_bits) := goodIn_app (goodIn_of _ (by decide +kernel)) ggX4_isSet_X4_bits
set_option maxRecDepth 20000 in
theorem ggX4_isSet_X4_in : GoodIn wsX4_isSet wsX4_in := goodIn_r _ [16] (by decide +kernel) (by decide +kernel)
set_option maxRecDepth 20000 in
theorem gX4_isSet_X4_in : GoodIn wsX4_isSet (va_wsS RX4 57 yX4_in wsX4_in) := goodIn_app (goodIn_of _ (by decide +kernel)) ggX4_isSet_X4_in
set_option maxRecDepth 20000 in
theorem ggX4_isSet_X4_find : GoodIn wsX4_isSet wsX4_find := goodIn_r _ [20, 9, 7, 21, 22, 23, 24, 25, 26, 27, 28, 29, 30, 31, 32, 33, 34, 35, 36, 37, 38, 39, 40, 41, 42, 43] (by decide +kernel) (by decide +kernel)
set_option maxRecDepth 20000 in
theorem gX4_isSet_X4_find : GoodIn wsX4_isSet (wsV RX4 112 RX4 yX4_find wsX4_find) := goodIn_app (goodIn_of _ (by decide +kernel)) ggX4_isSet_X4_find
set_option maxRecDepth 20000 in
theorem ggX4_liftsBy_X4_copyYard : GoodIn wsX4_liftsBy wsX4_copyYard := goodIn_r _ [5, 6, 7, 8, 9, 31, 32, 33, 34, 35, 36, 37, 38, 39, 40, 41, 42, 43, 44, 45, 46, 47, 48, 49, 50, 51, 52, 53] (by decide +kernel) (by decide +kernel)
set_option maxRecDepth 20000 in
theorem gX4_liftsBy_X4_copyYard : GoodIn wsX4_liftsBy (wsV RX4 118 RX4 yX4_copyYard wsX4_copyYard) := goodIn_app (goodIn_of _ (by decide +kernel)) ggX4_liftsBy_X4_copyYard
set_option maxRecDepth 20000 in
theorem ggX4_liftsBy_X4_member : GoodIn wsX4_liftsBy wsX4_member := goodIn_r _ [12] (by decide +kernel) (by decide +kernel)
set_option maxRecDepth 20000 in
theorem gX4_liftsBy_X4_member : GoodIn wsX4_liftsBy (va_wsS RX4 131 yX4_member wsX4_member) := goodIn_app (goodIn_of _ (by decide +kernel)) ggX4_liftsBy_X4_member
set_option maxRecDepth 20000 in
theorem ggX4_liftsBy_X4_digOut : GoodIn wsX4_liftsBy wsX4_digOut := goodIn_r _ [16, 6, 8, 17, 18, 19, 4, 20, 21, 22, 23, 24, 25, 26, 27, 28, 29, 30, 31, 32, 33, 34, 35, 36, 37, 38, 39, 40, 41, 42, 43, 44, 45, 46, 47, 48, 49, 50, 51, 52, 53] (by decide +kernel) (by decide +kernel)
set_option maxRecDepth 20000 in
theorem gX4_liftsBy_X4_digOut : GoodIn wsX4_liftsBy (wsV RX4 124 RX4 yX4_digOut wsX4_digOut) := goodIn_app (goodIn_of _ (by decide +kernel)) ggX4_liftsBy_X4_digOut
set_option maxRecDepth 20000 in
theorem ggX4_fewestLifts_X4_isSet : GoodIn wsX4_fewestLifts wsX4_isSet := goodIn_r _ [6, 7, 8, 9, 10, 5, 11, 12, 13, 14, 15, 16, 17, 18, 19, 20, 21, 22, 23, 24, 25, 52, 53, 54, 55, 56, 57, 58, 59, 60, 61, 62, 63, 64, 65, 66, 67, 68, 69, 70, 71, 72, 73, 74] (by decide +kernel) (by decide +kernel)
set_option maxRecDepth 20000 in
theorem gX4_fewestLifts_X4_isSet : GoodIn wsX4_fewestLifts (wsV RX4 135 RX4 yX4_isSet wsX4_isSet) := goodIn_app (goodIn_of _ (by decide +kernel)) ggX4_fewestLifts_X4_isSet
set_option maxRecDepth 20000 in
theorem ggX4_fewestLifts_X4_goesWell : GoodIn wsX4_fewestLifts wsX4_goesWell := goodIn_r _ [29, 30, 52, 53, 54, 55, 56, 57, 58, 59, 60, 61, 62, 63, 64, 65, 66, 67, 68, 69, 70, 71, 72, 73, 74] (by decide +kernel) (by decide +kernel)
set_option maxRecDepth 20000 in
theorem gX4_fewestLifts_X4_goesWell : GoodIn wsX4_fewestLifts (wsV RX4 99 RX4 yX4_goesWell wsX4_goesWell) := goodIn_app (goodIn_of _ (by decide +kernel)) ggX4_fewestLifts_X4_goesWell
set_option maxRecDepth 20000 in
theorem ggX4_fewestLifts_X4_bits : GoodIn wsX4_fewestLifts wsX4_bits := goodIn_r _ [18] (by decide +kernel) (by decide +kernel)
set_option maxRecDepth 20000 in
theorem gX4_fewestLifts_X4_bits : GoodIn wsX4_fewestLifts (va_wsS RX4 128 yX4_bits wsX4_bits) := goodIn_app (goodIn_of _ (by decide +kernel)) ggX4_fewestLifts_X4_bits
set_option maxRecDepth 20000 in
theorem ggX4_fewestLifts_X4_liftsBy : GoodIn wsX4_fewestLifts wsX4_liftsBy := goodIn_r _ [34, 8, 9, 10, 5, 11, 12, 13, 14, 15, 35, 36, 37, 38, 39, 40, 41, 22, 23, 24, 25, 42, 43, 44, 45, 46, 47, 48, 49, 50, 51, 52, 53, 54, 55, 56, 57, 58, 59, 60, 61, 62, 63, 64, 65, 66, 67, 68, 69, 70, 71, 72, 73, 74] (by decide +kernel) (by decide +kernel)
set_option maxRecDepth 20000 in
theorem gX4_fewestLifts_X4_liftsBy : GoodIn wsX4_fewestLifts (wsV RX4 138 RX4 yX4_liftsBy wsX4_liftsBy) := goodIn_app (goodIn_of _ (by decide +kernel)) ggX4_fewestLifts_X4_liftsBy
set_option maxRecDepth 20000 in
theorem ggX4_isLetter_X4_in : GoodIn wsX4_isLetter wsX4_in := goodIn_r _ [4] (by decide +kernel) (by decide +kernel)
set_option maxRecDepth 20000 in
theorem gX4_isLetter_X4_in : GoodIn wsX4_isLetter (va_wsS RX4 57 yX4_in wsX4_in) := goodIn_app (goodIn_of _ (by decide +kernel)) ggX4_isLetter_X4_in
set_option maxRecDepth 20000 in
theorem ggX4_tell_X4_isLetter : GoodIn wsX4_tell wsX4_isLetter := goodIn_r _ [6, 7, 8, 5, 9] (by decide +kernel) (by decide +kernel)
set_option maxRecDepth 20000 in
theorem gX4_tell_X4_isLetter : GoodIn wsX4_tell (va_wsS RX4 142 yX4_isLetter wsX4_isLetter) := goodIn_app (goodIn_of _ (by decide +kernel)) ggX4_tell_X4_isLetter
set_option maxRecDepth 20000 in
theorem ggX4_tell_X4_goesWell : GoodIn wsX4_tell wsX4_goesWell := goodIn_r _ [13, 14, 36, 37, 38, 39, 40, 41, 42, 43, 44, 45, 46, 47, 48, 49, 50, 51, 52, 53, 54, 55, 56, 57, 58] (by decide +kernel) (by decide +kernel)
set_option maxRecDepth 20000 in
theorem gX4_tell_X4_goesWell : GoodIn wsX4_tell (wsV RX4 99 RX4 yX4_goesWell wsX4_goesWell) := goodIn_app (goodIn_of _ (by decide +kernel)) ggX4_tell_X4_goesWell
set_option maxRecDepth 20000 in
theorem ggX4_tell_X4_payWords : GoodIn wsX4_tell wsX4_payWords := goodIn_r _ [18, 1, 19, 20, 21, 22, 23, 24, 5, 25, 2, 26, 27, 28, 29, 30, 31, 32, 33, 34, 35, 36, 37, 38, 39, 40, 41, 42, 43, 44, 45, 46, 47, 48, 49, 50, 51, 52, 53, 54, 55, 56, 57, 58] (by decide +kernel) (by decide +kernel)
set_option maxRecDepth 20000 in
theorem gX4_tell_X4_payWords : GoodIn wsX4_tell (wsV RX4 106 RX4 yX4_payWords wsX4_payWords) := goodIn_app (goodIn_of _ (by decide +kernel)) ggX4_tell_X4_payWords
set_option maxRecDepth 20000 in
theorem ggX4_hasPaid_X4_in : GoodIn wsX4_hasPaid wsX4_in := goodIn_r _ [6] (by decide +kernel) (by decide +kernel)
set_option maxRecDepth 20000 in
theorem gX4_hasPaid_X4_in : GoodIn wsX4_hasPaid (va_wsS RX4 57 yX4_in wsX4_in) := goodIn_app (goodIn_of _ (by decide +kernel)) ggX4_hasPaid_X4_in
set_option maxRecDepth 20000 in
theorem ggX4_hasPaid_X4_goesWell : GoodIn wsX4_hasPaid wsX4_goesWell := goodIn_r _ [10, 11, 12, 13, 14, 15, 16, 17, 18, 19, 20, 21, 22, 23, 24, 25, 26, 27, 28, 29, 30, 31, 32, 33, 34] (by decide +kernel) (by decide +kernel)
set_option maxRecDepth 20000 in
theorem gX4_hasPaid_X4_goesWell : GoodIn wsX4_hasPaid (wsV RX4 99 RX4 yX4_goesWell wsX4_goesWell) := goodIn_app (goodIn_of _ (by decide +kernel)) ggX4_hasPaid_X4_goesWell
set_option maxRecDepth 20000 in
theorem ggX4_offer_X4_isCrate : GoodIn wsX4_offer wsX4_isCrate := goodIn_r _ [10, 11, 12, 13, 9, 14, 36, 37, 38, 39, 40, 41, 42, 43, 44, 45, 46, 47, 48, 49, 50, 51, 52, 53, 54, 55, 56, 57, 58] (by decide +kernel) (by decide +kernel)
set_option maxRecDepth 20000 in
theorem gX4_offer_X4_isCrate : GoodIn wsX4_offer (wsV RX4 121 RX4 yX4_isCrate wsX4_isCrate) := goodIn_app (goodIn_of _ (by decide +kernel)) ggX4_offer_X4_isCrate
set_option maxRecDepth 20000 in
theorem ggX4_offer_X4_copyYard : GoodIn wsX4_offer wsX4_copyYard := goodIn_r _ [18, 19, 20, 21, 22, 36, 37, 38, 39, 40, 41, 42, 43, 44, 45, 46, 47, 48, 49, 50, 51, 52, 53, 54, 55, 56, 57, 58] (by decide +kernel) (by decide +kernel)
set_option maxRecDepth 20000 in
theorem gX4_offer_X4_copyYard : GoodIn wsX4_offer (wsV RX4 118 RX4 yX4_copyYard wsX4_copyYard) := goodIn_app (goodIn_of _ (by decide +kernel)) ggX4_offer_X4_copyYard
set_option maxRecDepth 20000 in
theorem ggX4_offer_X4_find : GoodIn wsX4_offer wsX4_find := goodIn_r _ [26, 21, 19, 36, 37, 38, 39, 40, 41, 42, 43, 44, 45, 46, 47, 48, 49, 50, 51, 52, 53, 54, 55, 56, 57, 58] (by decide +kernel) (by decide +kernel)
set_option maxRecDepth 20000 in
theorem gX4_offer_X4_find : GoodIn wsX4_offer (wsV RX4 112 RX4 yX4_find wsX4_find) := goodIn_app (goodIn_of _ (by decide +kernel)) ggX4_offer_X4_find
set_option maxRecDepth 20000 in
theorem ggX4_offer_X4_haulOf : GoodIn wsX4_offer wsX4_haulOf := goodIn_r _ [30, 1, 3, 5, 36, 37, 38, 39, 40, 41, 42, 43, 44, 45, 46, 47, 48, 49, 50, 51, 52, 53, 54, 55, 56, 57, 58] (by decide +kernel) (by decide +kernel)
set_option maxRecDepth 20000 in
theorem gX4_offer_X4_haulOf : GoodIn wsX4_offer (wsV RX4 145 RX4 yX4_haulOf wsX4_haulOf) := goodIn_app (goodIn_of _ (by decide +kernel)) ggX4_offer_X4_haulOf
set_option maxRecDepth 20000 in
theorem ggX4_offer_X4_in : GoodIn wsX4_offer wsX4_in := goodIn_r _ [14] (by decide +kernel) (by decide +kernel)
set_option maxRecDepth 20000 in
theorem gX4_offer_X4_in : GoodIn wsX4_offer (va_wsS RX4 57 yX4_in wsX4_in) := goodIn_app (goodIn_of _ (by decide +kernel)) ggX4_offer_X4_in
set_option maxRecDepth 20000 in
theorem ggX4_offer_X4_goesWell : GoodIn wsX4_offer wsX4_goesWell := goodIn_r _ [34, 35, 36, 37, 38, 39, 40, 41, 42, 43, 44, 45, 46, 47, 48, 49, 50, 51, 52, 53, 54, 55, 56, 57, 58] (by decide +kernel) (by decide +kernel)
set_option maxRecDepth 20000 in
theorem gX4_offer_X4_goesWell : GoodIn wsX4_offer (wsV RX4 99 RX4 yX4_goesWell wsX4_goesWell) := goodIn_app (goodIn_of _ (by decide +kernel)) ggX4_offer_X4_goesWell
set_option maxRecDepth 20000 in
theorem ggX4_bid_X4_isHaul : GoodIn wsX4_bid wsX4_isHaul := goodIn_r _ [7, 8, 9, 10, 6, 11, 17, 18, 19, 20, 21, 22, 23, 24, 25, 26, 27, 28, 29, 30, 31, 32, 33, 34, 35, 36, 37, 38, 39] (by decide +kernel) (by decide +kernel)
set_option maxRecDepth 20000 in
theorem gX4_bid_X4_isHaul : GoodIn wsX4_bid (wsV RX4 151 RX4 yX4_isHaul wsX4_isHaul) := goodIn_app (goodIn_of _ (by decide +kernel)) ggX4_bid_X4_isHaul
set_option maxRecDepth 20000 in
theorem ggX4_bid_X4_in : GoodIn wsX4_bid wsX4_in := goodIn_r _ [11] (by decide +kernel) (by decide +kernel)
set_option maxRecDepth 20000 in
theorem gX4_bid_X4_in : GoodIn wsX4_bid (va_wsS RX4 57 yX4_in wsX4_in) := goodIn_app (goodIn_of _ (by decide +kernel)) ggX4_bid_X4_in
set_option maxRecDepth 20000 in
theorem ggX4_bid_X4_goesWell : GoodIn wsX4_bid wsX4_goesWell := goodIn_r _ [15, 16, 17, 18, 19, 20, 21, 22, 23, 24, 25, 26, 27, 28, 29, 30, 31, 32, 33, 34, 35, 36, 37, 38, 39] (by decide +kernel) (by decide +kernel)
set_option maxRecDepth 20000 in
theorem gX4_bid_X4_goesWell : GoodIn wsX4_bid (wsV RX4 99 RX4 yX4_goesWell wsX4_goesWell) := goodIn_app (goodIn_of _ (by decide +kernel)) ggX4_bid_X4_goesWell
set_option maxRecDepth 20000 in
theorem ggX4_give_X4_isHaul : GoodIn wsX4_give wsX4_isHaul := goodIn_r _ [8, 9, 10, 11, 7, 12, 22, 23, 24, 25, 26, 27, 28, 29, 30, 31, 32, 33, 34, 35, 36, 37, 38, 39, 40, 41, 42, 43, 44] (by decide +kernel) (by decide +kernel)
set_option maxRecDepth 20000 in
theorem gX4_give_X4_isHaul : GoodIn wsX4_give (wsV RX4 151 RX4 yX4_isHaul wsX4_isHaul) := goodIn_app (goodIn_of _ (by decide +kernel)) ggX4_give_X4_isHaul
set_option maxRecDepth 20000 in
theorem ggX4_give_X4_cheapest : GoodIn wsX4_give wsX4_cheapest := goodIn_r _ [16, 3, 22, 23, 24, 25, 26, 27, 28, 29, 30, 31, 32, 33, 34, 35, 36, 37, 38, 39, 40, 41, 42, 43, 44] (by decide +kernel) (by decide +kernel)
set_option maxRecDepth 20000 in
theorem gX4_give_X4_cheapest : GoodIn wsX4_give (wsV RX4 154 RX4 yX4_cheapest wsX4_cheapest) := goodIn_app (goodIn_of _ (by decide +kernel)) ggX4_give_X4_cheapest
set_option maxRecDepth 20000 in
theorem ggX4_give_X4_goesWell : GoodIn wsX4_give wsX4_goesWell := goodIn_r _ [20, 21, 22, 23, 24, 25, 26, 27, 28, 29, 30, 31, 32, 33, 34, 35, 36, 37, 38, 39, 40, 41, 42, 43, 44] (by decide +kernel) (by decide +kernel)
set_option maxRecDepth 20000 in
theorem gX4_give_X4_goesWell : GoodIn wsX4_give (wsV RX4 99 RX4 yX4_goesWell wsX4_goesWell) := goodIn_app (goodIn_of _ (by decide +kernel)) ggX4_give_X4_goesWell
set_option maxRecDepth 20000 in
theorem ggX4_load_X4_haulOf : GoodIn wsX4_load wsX4_haulOf := goodIn_r _ [8, 9, 10, 2, 16, 17, 18, 19, 20, 21, 22, 23, 24, 25, 26, 27, 28, 29, 30, 31, 32, 33, 34, 35, 36, 37, 38] (by decide +kernel) (by decide +kernel)
set_option maxRecDepth 20000 in
theorem gX4_load_X4_haulOf : GoodIn wsX4_load (wsV RX4 145 RX4 yX4_haulOf wsX4_haulOf) := goodIn_app (goodIn_of _ (by decide +kernel)) ggX4_load_X4_haulOf
set_option maxRecDepth 20000 in
theorem ggX4_load_X4_goesWell : GoodIn wsX4_load wsX4_goesWell := goodIn_r _ [14, 15, 16, 17, 18, 19, 20, 21, 22, 23, 24, 25, 26, 27, 28, 29, 30, 31, 32, 33, 34, 35, 36, 37, 38] (by decide +kernel) (by decide +kernel)
set_option maxRecDepth 20000 in
theorem gX4_load_X4_goesWell : GoodIn wsX4_load (wsV RX4 99 RX4 yX4_goesWell wsX4_goesWell) := goodIn_app (goodIn_of _ (by decide +kernel)) ggX4_load_X4_goesWell
set_option maxRecDepth 20000 in
theorem ggX4_state_X4_isHaul : GoodIn wsX4_state wsX4_isHaul := goodIn_r _ [6, 7, 8, 9, 5, 10, 16, 17, 18, 19, 20, 21, 22, 23, 24, 25, 26, 27, 28, 29, 30, 31, 32, 33, 34, 35, 36, 37, 38] (by decide +kernel) (by decide +kernel)
set_option maxRecDepth 20000 in
theorem gX4_state_X4_isHaul : GoodIn wsX4_state (wsV RX4 151 RX4 yX4_isHaul wsX4_isHaul) := goodIn_app (goodIn_of _ (by decide +kernel)) ggX4_state_X4_isHaul
set_option maxRecDepth 20000 in
theorem ggX4_state_X4_goesWell : GoodIn wsX4_state wsX4_goesWell := goodIn_r _ [14, 15, 16, 17, 18, 19, 20, 21, 22, 23, 24, 25, 26, 27, 28, 29, 30, 31, 32, 33, 34, 35, 36, 37, 38] (by decide +kernel) (by decide +kernel)
set_option maxRecDepth 20000 in
theorem gX4_state_X4_goesWell : GoodIn wsX4_state (wsV RX4 99 RX4 yX4_goesWell wsX4_goesWell) := goodIn_app (goodIn_of _ (by decide +kernel)) ggX4_state_X4_goesWell
set_option maxRecDepth 20000 in
theorem ggX4_pass_X4_in : GoodIn wsX4_pass wsX4_in := goodIn_r _ [5] (by decide +kernel) (by decide +kernel)
set_option maxRecDepth 20000 in
theorem gX4_pass_X4_in : GoodIn wsX4_pass (va_wsS RX4 57 yX4_in wsX4_in) := goodIn_app (goodIn_of _ (by decide +kernel)) ggX4_pass_X4_in
set_option maxRecDepth 20000 in
theorem ggX4_pass_X4_goesWell : GoodIn wsX4_pass wsX4_goesWell := goodIn_r _ [9, 10, 21, 22, 23, 24, 25, 26, 27, 28, 29, 30, 31, 32, 33, 34, 35, 36, 37, 38, 39, 40, 41, 42, 43] (by decide +kernel) (by decide +kernel)
set_option maxRecDepth 20000 in
theorem gX4_pass_X4_goesWell : GoodIn wsX4_pass (wsV RX4 99 RX4 yX4_goesWell wsX4_goesWell) := goodIn_app (goodIn_of _ (by decide +kernel)) ggX4_pass_X4_goesWell
set_option maxRecDepth 20000 in
theorem ggX4_pass_X4_endDay : GoodIn wsX4_pass wsX4_endDay := goodIn_r _ [14, 15, 16, 17, 18, 1, 19, 20, 21, 22, 23, 24, 25, 26, 27, 28, 29, 30, 31, 32, 33, 34, 35, 36, 37, 38, 39, 40, 41, 42, 43] (by decide +kernel) (by decide +kernel)
set_option maxRecDepth 20000 in
theorem gX4_pass_X4_endDay : GoodIn wsX4_pass (wsV RX4 160 RX4 yX4_endDay wsX4_endDay) := goodIn_app (goodIn_of _ (by decide +kernel)) ggX4_pass_X4_endDay
set_option maxRecDepth 20000 in
theorem ggL_arrive_X3_arrive : GoodIn wsL_arrive wsX3_arrive := goodIn_ca (goodIn_ca (goodIn_r _ [7, 8, 9, 10, 11, 12, 13, 14, 15, 16, 6, 17, 18, 19, 20, 21, 22, 23, 24, 25, 26, 27, 28, 29, 30, 31, 32, 33, 34, 35, 36, 37, 38, 39, 40, 41, 42, 43, 44, 45, 46, 47, 48, 49, 50, 51, 52, 53, 54, 55, 56, 57, 58, 59, 60, 61, 62, 63, 64, 65, 66, 67, 68, 69, 70, 71, 72, 73, 74, 75, 76, 77, 78, 79, 80, 81, 82, 83, 84, 85, 86, 87, 88, 89, 90, 91, 92, 93, 94, 95, 96, 97, 98, 99, 100, 101, 102] (by decide +kernel) (by decide +kernel)) (goodIn_sub (fun _ h => List.mem_cons_of_mem _ (List.mem_append_left _ (List.mem_append_right _ h))) (by decide +kernel))) (goodIn_sub (fun _ h => List.mem_cons_of_mem _ (List.mem_append_right _ h)) (by decide +kernel))
set_option maxRecDepth 20000 in
theorem gL_arrive_X3_arrive : GoodIn wsL_arrive (wsV RL 7 RX3 yX3_arrive wsX3_arrive) := goodIn_app (goodIn_of _ (by decide +kernel)) ggL_arrive_X3_arrive
set_option maxRecDepth 20000 in
theorem ggL_lift_X3_lift : GoodIn wsL_lift wsX3_lift := goodIn_ca (goodIn_ca (goodIn_r _ [7, 8, 9, 10, 11, 12, 13, 14, 6, 15, 16, 17, 18, 19, 20, 21, 22, 23, 24, 25, 26, 27, 28, 29, 30, 31, 32, 33, 34, 35, 36, 37, 38, 39, 40, 41, 42, 43, 44, 45, 46, 47, 48, 49, 50, 51, 52, 53, 54, 55, 56, 57, 58, 59, 60, 61, 62, 63, 64, 65, 66, 67, 68, 69, 70, 71, 72, 73, 74, 75, 76, 77, 78, 79, 80, 81, 82, 83] (by decide +kernel) (by decide +kernel)) (goodIn_sub (fun _ h => List.mem_cons_of_mem _ (List.mem_append_left _ (List.mem_append_right _ h))) (by decide +kernel))) (goodIn_sub (fun _ h => List.mem_cons_of_mem _ (List.mem_append_right _ h)) (by decide +kernel))
set_option maxRecDepth 20000 in
theorem gL_lift_X3_lift : GoodIn wsL_lift (wsV RL 17 RX3 yX3_lift wsX3_lift) := goodIn_app (goodIn_of _ (by decide +kernel)) ggL_lift_X3_lift
set_option maxRecDepth 20000 in
theorem ggL_drop_X3_drop : GoodIn wsL_drop wsX3_drop := goodIn_ca (goodIn_ca (goodIn_r _ [7, 8, 9, 10, 11, 6, 12, 13, 14, 15, 16, 17, 18, 19, 20, 21, 22, 23, 24, 25, 26, 27, 28, 29, 30, 31, 32, 33, 34, 35, 36, 37, 38, 39, 40, 41, 42, 43, 44, 45, 46, 47, 48, 49, 50, 51, 52, 53, 54, 55, 56, 57, 58, 59, 60, 61, 62, 63, 64, 65, 66, 67, 68, 69, 70, 71, 72, 73, 74, 75, 76, 77, 78, 79, 80, 81, 82, 83, 84, 85, 86, 87, 88, 89, 90, 91, 92, 93, 94, 95, 96, 97, 98, 99, 100, 101] (by decide +kernel) (by decide +kernel)) (goodIn_sub (fun _ h => List.mem_cons_of_mem _ (List.mem_append_left _ (List.mem_append_right _ h))) (by decide +kernel))) (goodIn_sub (fun _ h => List.mem_cons_of_mem _ (List.mem_append_right _ h)) (by decide +kernel))
set_option maxRecDepth 20000 in
theorem gL_drop_X3_drop : GoodIn wsL_drop (wsV RL 21 RX3 yX3_drop wsX3_drop) := goodIn_app (goodIn_of _ (by decide +kernel)) ggL_drop_X3_drop
set_option maxRecDepth 20000 in
theorem ggL_dig_X3_dig : GoodIn wsL_dig wsX3_dig := goodIn_ca (goodIn_ca (goodIn_r _ [7, 8, 9, 10, 11, 12, 13, 14, 15, 16, 6, 17, 18, 19, 20, 21, 22, 23, 24, 25, 26, 27, 28, 29, 30, 31, 32, 33, 34, 35, 36, 37, 38, 39, 40, 41, 42, 43, 44, 45, 46, 47, 48, 49, 50, 51, 52, 53, 54, 55, 56, 57, 58, 59, 60, 61, 62, 63, 64, 65, 66, 67, 68, 69, 70, 71, 72, 73, 74, 75, 76, 77, 78, 79, 80, 81, 82, 83, 84, 85, 86, 87, 88, 89, 90, 91, 92, 93, 94, 95, 96, 97, 98, 99, 100, 101, 102, 103, 104, 105, 106, 107, 108, 109, 110, 111, 112, 113, 114, 115, 116, 117, 118, 119, 120, 121, 122, 123, 124, 125, 126, 127, 128] (by decide +kernel) (by decide +kernel)) (goodIn_sub (fun _ h => List.mem_cons_of_mem _ (List.mem_append_left _ (List.mem_append_right _ h))) (by decide +kernel))) (goodIn_sub (fun _ h => List.mem_cons_of_mem _ (List.mem_append_right _ h)) (by decide +kernel))
set_option maxRecDepth 20000 in
theorem gL_dig_X3_dig : GoodIn wsL_dig (wsV RL 24 RX3 yX3_dig wsX3_dig) := goodIn_app (goodIn_of _ (by decide +kernel)) ggL_dig_X3_dig
set_option maxRecDepth 20000 in
theorem ggL_height_X3_height : GoodIn wsL_height wsX3_height := goodIn_ca (goodIn_r _ [6, 7, 8, 9, 5, 10, 11, 12, 13, 14, 15, 16, 17, 18, 19, 20, 21, 22, 23, 24, 25, 26, 27, 28, 29, 30, 31, 32, 33] (by decide +kernel) (by decide +kernel)) (goodIn_sub (fun _ h => List.mem_cons_of_mem _ (List.mem_append_right _ h)) (by decide +kernel))
set_option maxRecDepth 20000 in
theorem gL_height_X3_height : GoodIn wsL_height (wsV RL 29 RX3 yX3_height wsX3_height) := goodIn_app (goodIn_of _ (by decide +kernel)) ggL_height_X3_height
set_option maxRecDepth 20000 in
theorem ggL_at_X3_at : GoodIn wsL_at wsX3_at := goodIn_ca (goodIn_r _ [6, 7, 8, 9, 10, 11, 5, 12, 13, 14, 15, 16, 17, 18, 19, 20, 21, 22, 23, 24, 25, 26, 27, 28, 29, 30, 31, 32, 33, 34, 35, 36, 37, 38] (by decide +kernel) (by decide +kernel)) (goodIn_sub (fun _ h => List.mem_cons_of_mem _ (List.mem_append_right _ h)) (by decide +kernel))
set_option maxRecDepth 20000 in
theorem gL_at_X3_at : GoodIn wsL_at (wsV RL 32 RX3 yX3_at wsX3_at) := goodIn_app (goodIn_of _ (by decide +kernel)) ggL_at_X3_at
set_option maxRecDepth 20000 in
theorem ggL_stackOf_X3_stackOf : GoodIn wsL_stackOf wsX3_stackOf := goodIn_ca (goodIn_r _ [6, 7, 8, 9, 10, 5, 11, 12, 13, 14, 15, 16, 17, 18, 19, 20, 21, 22, 23, 24, 25, 26, 27, 28, 29, 30, 31, 32, 33, 34, 35, 36] (by decide +kernel) (by decide +kernel)) (goodIn_sub (fun _ h => List.mem_cons_of_mem _ (List.mem_append_right _ h)) (by decide +kernel))
set_option maxRecDepth 20000 in
theorem gL_stackOf_X3_stackOf : GoodIn wsL_stackOf (wsV RL 36 RX3 yX3_stackOf wsX3_stackOf) := goodIn_app (goodIn_of _ (by decide +kernel)) ggL_stackOf_X3_stackOf
set_option maxRecDepth 20000 in
theorem ggL_fewestLifts_X3_fewestLifts : GoodIn wsL_fewestLifts wsX3_fewestLifts := goodIn_ca (goodIn_ca (goodIn_r _ [7, 8, 9, 10, 11, 12, 6, 13, 14, 15, 16, 17, 18, 19, 20, 21, 22, 23, 24, 25, 26, 27, 28, 29, 30, 31, 32, 33, 34, 35, 36, 37, 38, 39, 40, 41, 42, 43, 44, 45, 46, 47, 48, 49, 50, 51, 52, 53, 54, 55, 56, 57, 58, 59, 60, 61, 62, 63, 64, 65, 66, 67, 68, 69, 70, 71, 72, 73, 74, 75, 76, 77, 78, 79, 80, 81, 82, 83, 84, 85, 86, 87, 88, 89, 90, 91, 92, 93, 94, 95, 96, 97, 98, 99, 100, 101, 102, 103, 104, 105, 106, 107, 108, 109, 110, 111] (by decide +kernel) (by decide +kernel)) (goodIn_sub (fun _ h => List.mem_cons_of_mem _ (List.mem_append_left _ (List.mem_append_right _ h))) (by decide +kernel))) (goodIn_sub (fun _ h => List.mem_cons_of_mem _ (List.mem_append_right _ h)) (by decide +kernel))
set_option maxRecDepth 20000 in
theorem gL_fewestLifts_X3_fewestLifts : GoodIn wsL_fewestLifts (wsV RL 39 RX3 yX3_fewestLifts wsX3_fewestLifts) := goodIn_app (goodIn_of _ (by decide +kernel)) ggL_fewestLifts_X3_fewestLifts
set_option maxRecDepth 20000 in
theorem ggL_tell_X3_tell : GoodIn wsL_tell wsX3_tell := goodIn_ca (goodIn_ca (goodIn_r _ [7, 8, 9, 10, 11, 12, 13, 14, 6, 15, 16, 17, 18, 19, 20, 21, 22, 23, 24, 25, 26, 27, 28, 29, 30, 31, 32, 33, 34, 35, 36, 37, 38, 39, 40, 41, 42, 43, 44, 45, 46, 47, 48, 49, 50, 51, 52, 53, 54, 55, 56, 57, 58, 59, 60, 61, 62, 63, 64, 65, 66, 67, 68, 69, 70, 71, 72, 73, 74, 75, 76, 77, 78, 79] (by decide +kernel) (by decide +kernel)) (goodIn_sub (fun _ h => List.mem_cons_of_mem _ (List.mem_append_left _ (List.mem_append_right _ h))) (by decide +kernel))) (goodIn_sub (fun _ h => List.mem_cons_of_mem _ (List.mem_append_right _ h)) (by decide +kernel))
set_option maxRecDepth 20000 in
theorem gL_tell_X3_tell : GoodIn wsL_tell (wsV RL 42 RX3 yX3_tell wsX3_tell) := goodIn_app (goodIn_of _ (by decide +kernel)) ggL_tell_X3_tell
set_option maxRecDepth 20000 in
theorem ggL_hasPaid_X3_hasPaid : GoodIn wsL_hasPaid wsX3_hasPaid := goodIn_ca (goodIn_r _ [6, 7, 8, 9, 10, 11, 12, 13, 14, 15, 16, 17, 18, 19, 20, 21, 22, 23, 24, 25, 26, 27, 28, 29, 30, 31, 32, 33, 34, 35, 36, 37] (by decide +kernel) (by decide +kernel)) (goodIn_sub (fun _ h => List.mem_cons_of_mem _ (List.mem_append_right _ h)) (by decide +kernel))
set_option maxRecDepth 20000 in
theorem gL_hasPaid_X3_hasPaid : GoodIn wsL_hasPaid (wsV RL 46 RX3 yX3_hasPaid wsX3_hasPaid) := goodIn_app (goodIn_of _ (by decide +kernel)) ggL_hasPaid_X3_hasPaid
set_option maxRecDepth 20000 in
theorem ggL_offer_X3_offer : GoodIn wsL_offer wsX3_offer := goodIn_ca (goodIn_ca (goodIn_ca (goodIn_r _ [8, 9, 10, 11, 12, 13, 14, 15, 16, 17, 7, 18, 19, 20, 21, 22, 23, 24, 25, 26, 27, 28, 29, 30, 31, 32, 33, 34, 35, 36, 37, 38, 39, 40, 41, 42, 43, 44, 45, 46, 47, 48, 49, 50, 51, 52, 53, 54, 55, 56, 57, 58, 59, 60, 61, 62, 63, 64, 65, 66, 67, 68, 69, 70, 71, 72, 73, 74, 75, 76, 77, 78, 79, 80, 81] (by decide +kernel) (by decide +kernel)) (goodIn_sub (fun _ h => List.mem_cons_of_mem _ (List.mem_append_left _ (List.mem_append_left _ (List.mem_append_right _ h)))) (by decide +kernel))) (goodIn_sub (fun _ h => List.mem_cons_of_mem _ (List.mem_append_left _ (List.mem_append_right _ h))) (by decide +kernel))) (goodIn_sub (fun _ h => List.mem_cons_of_mem _ (List.mem_append_right _ h)) (by decide +kernel))
set_option maxRecDepth 20000 in
theorem gL_offer_X3_offer : GoodIn wsL_offer (wsV RL 50 RX3 yX3_offer wsX3_offer) := goodIn_app (goodIn_of _ (by decide +kernel)) ggL_offer_X3_offer
set_option maxRecDepth 20000 in
theorem ggL_bid_X3_bid : GoodIn wsL_bid wsX3_bid := goodIn_ca (goodIn_ca (goodIn_ca (goodIn_r _ [8, 9, 10, 11, 12, 13, 14, 15, 16, 7, 17, 18, 19, 20, 21, 22, 23, 24, 25, 26, 27, 28, 29, 30, 31, 32, 33, 34, 35, 36, 37, 38, 39, 40, 41, 42, 43, 44, 45, 46, 47, 48, 49, 50, 51, 52, 53, 54, 55, 56, 57, 58, 59, 60, 61, 62, 63, 64, 65, 66, 67] (by decide +kernel) (by decide +kernel)) (goodIn_sub (fun _ h => List.mem_cons_of_mem _ (List.mem_append_left _ (List.mem_append_left _ (List.mem_append_right _ h)))) (by decide +kernel))) (goodIn_sub (fun _ h => List.mem_cons_of_mem _ (List.mem_append_left _ (List.mem_append_right _ h))) (by decide +kernel))) (goodIn_sub (fun _ h => List.mem_cons_of_mem _ (List.mem_append_right _ h)) (by decide +kernel))
set_option maxRecDepth 20000 in
theorem gL_bid_X3_bid : GoodIn wsL_bid (wsV RL 53 RX3 yX3_bid wsX3_bid) := goodIn_app (goodIn_of _ (by decide +kernel)) ggL_bid_X3_bid
set_option maxRecDepth 20000 in
theorem ggL_give_X3_give : GoodIn wsL_give wsX3_give := goodIn_ca (goodIn_ca (goodIn_r _ [7, 8, 9, 10, 11, 12, 13, 6, 14, 15, 16, 17, 18, 19, 20, 21, 22, 23, 24, 25, 26, 27, 28, 29, 30, 31, 32, 33, 34, 35, 36, 37, 38, 39, 40, 41, 42, 43, 44, 45, 46, 47, 48, 49, 50, 51, 52, 53, 54, 55, 56, 57, 58, 59, 60, 61, 62, 63, 64, 65, 66, 67, 68, 69] (by decide +kernel) (by decide +kernel)) (goodIn_sub (fun _ h => List.mem_cons_of_mem _ (List.mem_append_left _ (List.mem_append_right _ h))) (by decide +kernel))) (goodIn_sub (fun _ h => List.mem_cons_of_mem _ (List.mem_append_right _ h)) (by decide +kernel))
set_option maxRecDepth 20000 in
theorem gL_give_X3_give : GoodIn wsL_give (wsV RL 57 RX3 yX3_give wsX3_give) := goodIn_app (goodIn_of _ (by decide +kernel)) ggL_give_X3_give
set_option maxRecDepth 20000 in
theorem ggL_load_X3_load : GoodIn wsL_load wsX3_load := goodIn_ca (goodIn_r _ [6, 7, 8, 9, 10, 11, 12, 13, 5, 14, 15, 16, 17, 18, 19, 20, 21, 22, 23, 24, 25, 26, 27, 28, 29, 30, 31, 32, 33, 34, 35, 36, 37, 38, 39, 40, 41, 42, 43, 44, 45, 46, 47, 48, 49, 50, 51, 52, 53, 54, 55, 56, 57] (by decide +kernel) (by decide +kernel)) (goodIn_sub (fun _ h => List.mem_cons_of_mem _ (List.mem_append_right _ h)) (by decide +kernel))
set_option maxRecDepth 20000 in
theorem gL_load_X3_load : GoodIn wsL_load (wsV RL 60 RX3 yX3_load wsX3_load) := goodIn_app (goodIn_of _ (by decide +kernel)) ggL_load_X3_load
set_option maxRecDepth 20000 in
theorem ggL_state_X3_state : GoodIn wsL_state wsX3_state := goodIn_ca (goodIn_r _ [6, 7, 8, 9, 10, 5, 11, 12, 13, 14, 15, 16, 17, 18, 19, 20, 21, 22, 23, 24, 25, 26, 27, 28, 29, 30, 31, 32, 33, 34, 35, 36, 37, 38, 39, 40, 41, 42, 43, 44] (by decide +kernel) (by decide +kernel)) (goodIn_sub (fun _ h => List.mem_cons_of_mem _ (List.mem_append_right _ h)) (by decide +kernel))
set_option maxRecDepth 20000 in
theorem gL_state_X3_state : GoodIn wsL_state (wsV RL 64 RX3 yX3_state wsX3_state) := goodIn_app (goodIn_of _ (by decide +kernel)) ggL_state_X3_state
set_option maxRecDepth 20000 in
theorem ggL_pass_X3_pass : GoodIn wsL_pass wsX3_pass := goodIn_ca (goodIn_ca (goodIn_r _ [7, 8, 9, 10, 11, 12, 13, 14, 15, 16, 6, 17, 18, 19, 20, 21, 22, 23, 24, 25, 26, 27, 28, 29, 30, 31, 32, 33, 34, 35, 36, 37, 38, 39, 40, 41, 42, 43, 44, 45, 46, 47, 48, 49, 50, 51, 52, 53, 54, 55, 56, 57, 58, 59, 60, 61, 62, 63, 64, 65, 66] (by decide +kernel) (by decide +kernel)) (goodIn_sub (fun _ h => List.mem_cons_of_mem _ (List.mem_append_left _ (List.mem_append_right _ h))) (by decide +kernel))) (goodIn_sub (fun _ h => List.mem_cons_of_mem _ (List.mem_append_right _ h)) (by decide +kernel))
set_option maxRecDepth 20000 in
theorem gL_pass_X3_pass : GoodIn wsL_pass (wsV RL 67 RX3 yX3_pass wsX3_pass) := goodIn_app (goodIn_of _ (by decide +kernel)) ggL_pass_X3_pass
abbrev vwCl : List vw_C := [(RX0, TX0, 8), (RX1, TX1, 3), (RX2, TX2, 5), (RX3, TX3, 12), (RX4, TX4, 23)]
end
section
theorem dX0_init_0 : decode cX0_init 0 = .ok (.aload_n 0, 1) := by decide +kernel
theorem dX0_init_1 : decode cX0_init 1 = .ok (.invokespecial 3, 3) := by decide +kernel
theorem dX0_init_4 : decode cX0_init 4 = .ok (.aload_n 0, 1) := by decide +kernel
theorem dX0_init_5 : decode cX0_init 5 = .ok (.bipush 20, 2) := by decide +kernel
theorem dX0_init_7 : decode cX0_init 7 = .ok (.newarray .int, 2) := by decide +kernel
theorem dX0_init_9 : decode cX0_init 9 = .ok (.putfield 9, 3) := by decide +kernel
theorem dX0_init_12 : decode cX0_init 12 = .ok (.aload_n 0, 1) := by decide +kernel
theorem dX0_init_13 : decode cX0_init 13 = .ok (.bipush 20, 2) := by decide +kernel
theorem dX0_init_15 : decode cX0_init 15 = .ok (.newarray .int, 2) := by decide +kernel
theorem dX0_init_17 : decode cX0_init 17 = .ok (.putfield 15, 3) := by decide +kernel
theorem dX0_init_20 : decode cX0_init 20 = .ok (.aload_n 0, 1) := by decide +kernel
theorem dX0_init_21 : decode cX0_init 21 = .ok (.bipush 20, 2) := by decide +kernel
theorem dX0_init_23 : decode cX0_init 23 = .ok (.newarray .int, 2) := by decide +kernel
theorem dX0_init_25 : decode cX0_init 25 = .ok (.putfield 18, 3) := by decide +kernel
theorem dX0_init_28 : decode cX0_init 28 = .ok (.aload_n 0, 1) := by decide +kernel
theorem dX0_init_29 : decode cX0_init 29 = .ok (.bipush 20, 2) := by decide +kernel
theorem dX0_init_31 : decode cX0_init 31 = .ok (.newarray .int, 2) := by decide +kernel
theorem dX0_init_33 : decode cX0_init 33 = .ok (.putfield 21, 3) := by decide +kernel
theorem dX0_init_36 : decode cX0_init 36 = .ok (.aload_n 0, 1) := by decide +kernel
theorem dX0_init_37 : decode cX0_init 37 = .ok (.bipush 80, 2) := by decide +kernel
theorem dX0_init_39 : decode cX0_init 39 = .ok (.newarray .int, 2) := by decide +kernel
theorem dX0_init_41 : decode cX0_init 41 = .ok (.putfield 24, 3) := by decide +kernel
theorem dX0_init_44 : decode cX0_init 44 = .ok (.aload_n 0, 1) := by decide +kernel
theorem dX0_init_45 : decode cX0_init 45 = .ok (.iconst 0, 1) := by decide +kernel
theorem dX0_init_46 : decode cX0_init 46 = .ok (.putfield 27, 3) := by decide +kernel
theorem dX0_init_49 : decode cX0_init 49 = .ok (.aload_n 0, 1) := by decide +kernel
theorem dX0_init_50 : decode cX0_init 50 = .ok (.iconst 0, 1) := by decide +kernel
theorem dX0_init_51 : decode cX0_init 51 = .ok (.putfield 31, 3) := by decide +kernel
theorem dX0_init_54 : decode cX0_init 54 = .ok (.aload_n 0, 1) := by decide +kernel
theorem dX0_init_55 : decode cX0_init 55 = .ok (.iconst 0, 1) := by decide +kernel
theorem dX0_init_56 : decode cX0_init 56 = .ok (.putfield 34, 3) := by decide +kernel
theorem dX0_init_59 : decode cX0_init 59 = .ok (.return_, 1) := by decide +kernel
theorem dX0_number_0 : decode cX0_number 0 = .ok (.aload_n 0, 1) := by decide +kernel
theorem dX0_number_1 : decode cX0_number 1 = .ok (.getfield 27, 3) := by decide +kernel
theorem dX0_number_4 : decode cX0_number 4 = .ok (.ireturn, 1) := by decide +kernel
theorem dX0_pricesOfDone_0 : decode cX0_pricesOfDone 0 = .ok (.aload_n 0, 1) := by decide +kernel
theorem dX0_pricesOfDone_1 : decode cX0_pricesOfDone 1 = .ok (.getfield 31, 3) := by decide +kernel
theorem dX0_pricesOfDone_4 : decode cX0_pricesOfDone 4 = .ok (.ireturn, 1) := by decide +kernel
theorem dX0_owedForLate_0 : decode cX0_owedForLate 0 = .ok (.aload_n 0, 1) := by decide +kernel
theorem dX0_owedForLate_1 : decode cX0_owedForLate 1 = .ok (.getfield 34, 3) := by decide +kernel
theorem dX0_owedForLate_4 : decode cX0_owedForLate 4 = .ok (.ireturn, 1) := by decide +kernel
theorem dX0_stateOf_0 : decode cX0_stateOf 0 = .ok (.iload_n 1, 1) := by decide +kernel
theorem dX0_stateOf_1 : decode cX0_stateOf 1 = .ok (.ifCond .lt 20, 3) := by decide +kernel
theorem dX0_stateOf_4 : decode cX0_stateOf 4 = .ok (.iload_n 1, 1) := by decide +kernel
theorem dX0_stateOf_5 : decode cX0_stateOf 5 = .ok (.aload_n 0, 1) := by decide +kernel
theorem dX0_stateOf_6 : decode cX0_stateOf 6 = .ok (.getfield 27, 3) := by decide +kernel
theorem dX0_stateOf_9 : decode cX0_stateOf 9 = .ok (.if_icmp .ge 12, 3) := by decide +kernel
theorem dX0_stateOf_12 : decode cX0_stateOf 12 = .ok (.aload_n 0, 1) := by decide +kernel
theorem dX0_stateOf_13 : decode cX0_stateOf 13 = .ok (.getfield 18, 3) := by decide +kernel
theorem dX0_stateOf_16 : decode cX0_stateOf 16 = .ok (.iload_n 1, 1) := by decide +kernel
theorem dX0_stateOf_17 : decode cX0_stateOf 17 = .ok (.iaload, 1) := by decide +kernel
theorem dX0_stateOf_18 : decode cX0_stateOf 18 = .ok (.goto 4, 3) := by decide +kernel
theorem dX0_stateOf_21 : decode cX0_stateOf 21 = .ok (.iconst (-1), 1) := by decide +kernel
theorem dX0_stateOf_22 : decode cX0_stateOf 22 = .ok (.ireturn, 1) := by decide +kernel
theorem dX0_isOpen_0 : decode cX0_isOpen 0 = .ok (.aload_n 0, 1) := by decide +kernel
theorem dX0_isOpen_1 : decode cX0_isOpen 1 = .ok (.iload_n 1, 1) := by decide +kernel
theorem dX0_isOpen_2 : decode cX0_isOpen 2 = .ok (.invokevirtual 37, 3) := by decide +kernel
theorem dX0_isOpen_5 : decode cX0_isOpen 5 = .ok (.istore_n 2, 1) := by decide +kernel
theorem dX0_isOpen_6 : decode cX0_isOpen 6 = .ok (.iload_n 2, 1) := by decide +kernel
theorem dX0_isOpen_7 : decode cX0_isOpen 7 = .ok (.ifCond .eq 8, 3) := by decide +kernel
theorem dX0_isOpen_10 : decode cX0_isOpen 10 = .ok (.iload_n 2, 1) := by decide +kernel
theorem dX0_isOpen_11 : decode cX0_isOpen 11 = .ok (.iconst 1, 1) := by decide +kernel
theorem dX0_isOpen_12 : decode cX0_isOpen 12 = .ok (.if_icmp .ne 7, 3) := by decide +kernel
theorem dX0_isOpen_15 : decode cX0_isOpen 15 = .ok (.iconst 1, 1) := by decide +kernel
theorem dX0_isOpen_16 : decode cX0_isOpen 16 = .ok (.goto 4, 3) := by decide +kernel
theorem dX0_isOpen_19 : decode cX0_isOpen 19 = .ok (.iconst 0, 1) := by decide +kernel
theorem dX0_isOpen_20 : decode cX0_isOpen 20 = .ok (.ireturn, 1) := by decide +kernel
theorem dX0_openHaulOf_0 : decode cX0_openHaulOf 0 = .ok (.iconst 0, 1) := by decide +kernel
theorem dX0_openHaulOf_1 : decode cX0_openHaulOf 1 = .ok (.istore_n 2, 1) := by decide +kernel
theorem dX0_openHaulOf_2 : decode cX0_openHaulOf 2 = .ok (.iload_n 2, 1) := by decide +kernel
theorem dX0_openHaulOf_3 : decode cX0_openHaulOf 3 = .ok (.aload_n 0, 1) := by decide +kernel
theorem dX0_openHaulOf_4 : decode cX0_openHaulOf 4 = .ok (.getfield 27, 3) := by decide +kernel
theorem dX0_openHaulOf_7 : decode cX0_openHaulOf 7 = .ok (.if_icmp .ge 29, 3) := by decide +kernel
theorem dX0_openHaulOf_10 : decode cX0_openHaulOf 10 = .ok (.aload_n 0, 1) := by decide +kernel
theorem dX0_openHaulOf_11 : decode cX0_openHaulOf 11 = .ok (.getfield 9, 3) := by decide +kernel
theorem dX0_openHaulOf_14 : decode cX0_openHaulOf 14 = .ok (.iload_n 2, 1) := by decide +kernel
theorem dX0_openHaulOf_15 : decode cX0_openHaulOf 15 = .ok (.iaload, 1) := by decide +kernel
theorem dX0_openHaulOf_16 : decode cX0_openHaulOf 16 = .ok (.iload_n 1, 1) := by decide +kernel
theorem dX0_openHaulOf_17 : decode cX0_openHaulOf 17 = .ok (.if_icmp .ne 13, 3) := by decide +kernel
theorem dX0_openHaulOf_20 : decode cX0_openHaulOf 20 = .ok (.aload_n 0, 1) := by decide +kernel
theorem dX0_openHaulOf_21 : decode cX0_openHaulOf 21 = .ok (.iload_n 2, 1) := by decide +kernel
theorem dX0_openHaulOf_22 : decode cX0_openHaulOf 22 = .ok (.invokevirtual 41, 3) := by decide +kernel
theorem dX0_openHaulOf_25 : decode cX0_openHaulOf 25 = .ok (.ifCond .eq 5, 3) := by decide +kernel
theorem dX0_openHaulOf_28 : decode cX0_openHaulOf 28 = .ok (.iload_n 2, 1) := by decide +kernel
theorem dX0_openHaulOf_29 : decode cX0_openHaulOf 29 = .ok (.ireturn, 1) := by decide +kernel
theorem dX0_openHaulOf_30 : decode cX0_openHaulOf 30 = .ok (.iinc 2 1, 3) := by decide +kernel
theorem dX0_openHaulOf_33 : decode cX0_openHaulOf 33 = .ok (.goto (-31), 3) := by decide +kernel
theorem dX0_openHaulOf_36 : decode cX0_openHaulOf 36 = .ok (.iconst (-1), 1) := by decide +kernel
theorem dX0_openHaulOf_37 : decode cX0_openHaulOf 37 = .ok (.ireturn, 1) := by decide +kernel
theorem dX0_add_0 : decode cX0_add 0 = .ok (.aload_n 0, 1) := by decide +kernel
theorem dX0_add_1 : decode cX0_add 1 = .ok (.getfield 27, 3) := by decide +kernel
theorem dX0_add_4 : decode cX0_add 4 = .ok (.bipush 20, 2) := by decide +kernel
theorem dX0_add_6 : decode cX0_add 6 = .ok (.if_icmp .lt 5, 3) := by decide +kernel
theorem dX0_add_9 : decode cX0_add 9 = .ok (.iconst (-1), 1) := by decide +kernel
theorem dX0_add_10 : decode cX0_add 10 = .ok (.ireturn, 1) := by decide +kernel
theorem dX0_add_11 : decode cX0_add 11 = .ok (.aload_n 0, 1) := by decide +kernel
theorem dX0_add_12 : decode cX0_add 12 = .ok (.getfield 27, 3) := by decide +kernel
theorem dX0_add_15 : decode cX0_add 15 = .ok (.istore_n 3, 1) := by decide +kernel
theorem dX0_add_16 : decode cX0_add 16 = .ok (.aload_n 0, 1) := by decide +kernel
theorem dX0_add_17 : decode cX0_add 17 = .ok (.dup, 1) := by decide +kernel
theorem dX0_add_18 : decode cX0_add 18 = .ok (.getfield 27, 3) := by decide +kernel
theorem dX0_add_21 : decode cX0_add 21 = .ok (.iconst 1, 1) := by decide +kernel
theorem dX0_add_22 : decode cX0_add 22 = .ok (.iadd, 1) := by decide +kernel
theorem dX0_add_23 : decode cX0_add 23 = .ok (.putfield 27, 3) := by decide +kernel
theorem dX0_add_26 : decode cX0_add 26 = .ok (.aload_n 0, 1) := by decide +kernel
theorem dX0_add_27 : decode cX0_add 27 = .ok (.getfield 9, 3) := by decide +kernel
theorem dX0_add_30 : decode cX0_add 30 = .ok (.iload_n 3, 1) := by decide +kernel
theorem dX0_add_31 : decode cX0_add 31 = .ok (.iload_n 1, 1) := by decide +kernel
theorem dX0_add_32 : decode cX0_add 32 = .ok (.iastore, 1) := by decide +kernel
theorem dX0_add_33 : decode cX0_add 33 = .ok (.aload_n 0, 1) := by decide +kernel
theorem dX0_add_34 : decode cX0_add 34 = .ok (.getfield 15, 3) := by decide +kernel
theorem dX0_add_37 : decode cX0_add 37 = .ok (.iload_n 3, 1) := by decide +kernel
theorem dX0_add_38 : decode cX0_add 38 = .ok (.iload_n 2, 1) := by decide +kernel
theorem dX0_add_39 : decode cX0_add 39 = .ok (.iastore, 1) := by decide +kernel
theorem dX0_add_40 : decode cX0_add 40 = .ok (.aload_n 0, 1) := by decide +kernel
theorem dX0_add_41 : decode cX0_add 41 = .ok (.getfield 18, 3) := by decide +kernel
theorem dX0_add_44 : decode cX0_add 44 = .ok (.iload_n 3, 1) := by decide +kernel
theorem dX0_add_45 : decode cX0_add 45 = .ok (.iconst 0, 1) := by decide +kernel
theorem dX0_add_46 : decode cX0_add 46 = .ok (.iastore, 1) := by decide +kernel
theorem dX0_add_47 : decode cX0_add 47 = .ok (.iload_n 3, 1) := by decide +kernel
theorem dX0_add_48 : decode cX0_add 48 = .ok (.ireturn, 1) := by decide +kernel
theorem dX0_isPlaceForBid_0 : decode cX0_isPlaceForBid 0 = .ok (.iload_n 1, 1) := by decide +kernel
theorem dX0_isPlaceForBid_1 : decode cX0_isPlaceForBid 1 = .ok (.ifCond .lt 24, 3) := by decide +kernel
theorem dX0_isPlaceForBid_4 : decode cX0_isPlaceForBid 4 = .ok (.iload_n 1, 1) := by decide +kernel
theorem dX0_isPlaceForBid_5 : decode cX0_isPlaceForBid 5 = .ok (.aload_n 0, 1) := by decide +kernel
theorem dX0_isPlaceForBid_6 : decode cX0_isPlaceForBid 6 = .ok (.getfield 27, 3) := by decide +kernel
theorem dX0_isPlaceForBid_9 : decode cX0_isPlaceForBid 9 = .ok (.if_icmp .ge 16, 3) := by decide +kernel
theorem dX0_isPlaceForBid_12 : decode cX0_isPlaceForBid 12 = .ok (.iload_n 2, 1) := by decide +kernel
theorem dX0_isPlaceForBid_13 : decode cX0_isPlaceForBid 13 = .ok (.ifCond .lt 12, 3) := by decide +kernel
theorem dX0_isPlaceForBid_16 : decode cX0_isPlaceForBid 16 = .ok (.iload_n 2, 1) := by decide +kernel
theorem dX0_isPlaceForBid_17 : decode cX0_isPlaceForBid 17 = .ok (.iconst 4, 1) := by decide +kernel
theorem dX0_isPlaceForBid_18 : decode cX0_isPlaceForBid 18 = .ok (.if_icmp .ge 7, 3) := by decide +kernel
theorem dX0_isPlaceForBid_21 : decode cX0_isPlaceForBid 21 = .ok (.iconst 1, 1) := by decide +kernel
theorem dX0_isPlaceForBid_22 : decode cX0_isPlaceForBid 22 = .ok (.goto 4, 3) := by decide +kernel
theorem dX0_isPlaceForBid_25 : decode cX0_isPlaceForBid 25 = .ok (.iconst 0, 1) := by decide +kernel
theorem dX0_isPlaceForBid_26 : decode cX0_isPlaceForBid 26 = .ok (.ireturn, 1) := by decide +kernel
theorem dX0_priceAsked_0 : decode cX0_priceAsked 0 = .ok (.aload_n 0, 1) := by decide +kernel
theorem dX0_priceAsked_1 : decode cX0_priceAsked 1 = .ok (.iload_n 1, 1) := by decide +kernel
theorem dX0_priceAsked_2 : decode cX0_priceAsked 2 = .ok (.iload_n 2, 1) := by decide +kernel
theorem dX0_priceAsked_3 : decode cX0_priceAsked 3 = .ok (.invokevirtual 45, 3) := by decide +kernel
theorem dX0_priceAsked_6 : decode cX0_priceAsked 6 = .ok (.ifCond .eq 16, 3) := by decide +kernel
theorem dX0_priceAsked_9 : decode cX0_priceAsked 9 = .ok (.aload_n 0, 1) := by decide +kernel
theorem dX0_priceAsked_10 : decode cX0_priceAsked 10 = .ok (.getfield 24, 3) := by decide +kernel
theorem dX0_priceAsked_13 : decode cX0_priceAsked 13 = .ok (.iload_n 1, 1) := by decide +kernel
theorem dX0_priceAsked_14 : decode cX0_priceAsked 14 = .ok (.iconst 4, 1) := by decide +kernel
theorem dX0_priceAsked_15 : decode cX0_priceAsked 15 = .ok (.imul, 1) := by decide +kernel
theorem dX0_priceAsked_16 : decode cX0_priceAsked 16 = .ok (.iload_n 2, 1) := by decide +kernel
theorem dX0_priceAsked_17 : decode cX0_priceAsked 17 = .ok (.iadd, 1) := by decide +kernel
theorem dX0_priceAsked_18 : decode cX0_priceAsked 18 = .ok (.iaload, 1) := by decide +kernel
theorem dX0_priceAsked_19 : decode cX0_priceAsked 19 = .ok (.ifCond .ne 5, 3) := by decide +kernel
theorem dX0_priceAsked_22 : decode cX0_priceAsked 22 = .ok (.iconst (-1), 1) := by decide +kernel
theorem dX0_priceAsked_23 : decode cX0_priceAsked 23 = .ok (.ireturn, 1) := by decide +kernel
theorem dX0_priceAsked_24 : decode cX0_priceAsked 24 = .ok (.aload_n 0, 1) := by decide +kernel
theorem dX0_priceAsked_25 : decode cX0_priceAsked 25 = .ok (.getfield 24, 3) := by decide +kernel
theorem dX0_priceAsked_28 : decode cX0_priceAsked 28 = .ok (.iload_n 1, 1) := by decide +kernel
theorem dX0_priceAsked_29 : decode cX0_priceAsked 29 = .ok (.iconst 4, 1) := by decide +kernel
theorem dX0_priceAsked_30 : decode cX0_priceAsked 30 = .ok (.imul, 1) := by decide +kernel
theorem dX0_priceAsked_31 : decode cX0_priceAsked 31 = .ok (.iload_n 2, 1) := by decide +kernel
theorem dX0_priceAsked_32 : decode cX0_priceAsked 32 = .ok (.iadd, 1) := by decide +kernel
theorem dX0_priceAsked_33 : decode cX0_priceAsked 33 = .ok (.iaload, 1) := by decide +kernel
theorem dX0_priceAsked_34 : decode cX0_priceAsked 34 = .ok (.ireturn, 1) := by decide +kernel
theorem dX0_enterBid_0 : decode cX0_enterBid 0 = .ok (.aload_n 0, 1) := by decide +kernel
theorem dX0_enterBid_1 : decode cX0_enterBid 1 = .ok (.iload_n 1, 1) := by decide +kernel
theorem dX0_enterBid_2 : decode cX0_enterBid 2 = .ok (.iload_n 2, 1) := by decide +kernel
theorem dX0_enterBid_3 : decode cX0_enterBid 3 = .ok (.invokevirtual 45, 3) := by decide +kernel
theorem dX0_enterBid_6 : decode cX0_enterBid 6 = .ok (.ifCond .eq 14, 3) := by decide +kernel
theorem dX0_enterBid_9 : decode cX0_enterBid 9 = .ok (.aload_n 0, 1) := by decide +kernel
theorem dX0_enterBid_10 : decode cX0_enterBid 10 = .ok (.getfield 24, 3) := by decide +kernel
theorem dX0_enterBid_13 : decode cX0_enterBid 13 = .ok (.iload_n 1, 1) := by decide +kernel
theorem dX0_enterBid_14 : decode cX0_enterBid 14 = .ok (.iconst 4, 1) := by decide +kernel
theorem dX0_enterBid_15 : decode cX0_enterBid 15 = .ok (.imul, 1) := by decide +kernel
theorem dX0_enterBid_16 : decode cX0_enterBid 16 = .ok (.iload_n 2, 1) := by decide +kernel
theorem dX0_enterBid_17 : decode cX0_enterBid 17 = .ok (.iadd, 1) := by decide +kernel
theorem dX0_enterBid_18 : decode cX0_enterBid 18 = .ok (.iload_n 3, 1) := by decide +kernel
theorem dX0_enterBid_19 : decode cX0_enterBid 19 = .ok (.iastore, 1) := by decide +kernel
theorem dX0_enterBid_20 : decode cX0_enterBid 20 = .ok (.return_, 1) := by decide +kernel
theorem dX0_cheapestHaulier_0 : decode cX0_cheapestHaulier 0 = .ok (.iconst (-1), 1) := by decide +kernel
theorem dX0_cheapestHaulier_1 : decode cX0_cheapestHaulier 1 = .ok (.istore_n 2, 1) := by decide +kernel
theorem dX0_cheapestHaulier_2 : decode cX0_cheapestHaulier 2 = .ok (.iconst 0, 1) := by decide +kernel
theorem dX0_cheapestHaulier_3 : decode cX0_cheapestHaulier 3 = .ok (.istore_n 3, 1) := by decide +kernel
theorem dX0_cheapestHaulier_4 : decode cX0_cheapestHaulier 4 = .ok (.iload_n 3, 1) := by decide +kernel
theorem dX0_cheapestHaulier_5 : decode cX0_cheapestHaulier 5 = .ok (.iconst 4, 1) := by decide +kernel
theorem dX0_cheapestHaulier_6 : decode cX0_cheapestHaulier 6 = .ok (.if_icmp .ge 41, 3) := by decide +kernel
theorem dX0_cheapestHaulier_9 : decode cX0_cheapestHaulier 9 = .ok (.aload_n 0, 1) := by decide +kernel
theorem dX0_cheapestHaulier_10 : decode cX0_cheapestHaulier 10 = .ok (.iload_n 1, 1) := by decide +kernel
theorem dX0_cheapestHaulier_11 : decode cX0_cheapestHaulier 11 = .ok (.iload_n 3, 1) := by decide +kernel
theorem dX0_cheapestHaulier_12 : decode cX0_cheapestHaulier 12 = .ok (.invokevirtual 49, 3) := by decide +kernel
theorem dX0_cheapestHaulier_15 : decode cX0_cheapestHaulier 15 = .ok (.istore 4, 2) := by decide +kernel
theorem dX0_cheapestHaulier_17 : decode cX0_cheapestHaulier 17 = .ok (.iload 4, 2) := by decide +kernel
theorem dX0_cheapestHaulier_19 : decode cX0_cheapestHaulier 19 = .ok (.iconst (-1), 1) := by decide +kernel
theorem dX0_cheapestHaulier_20 : decode cX0_cheapestHaulier 20 = .ok (.if_icmp .eq 21, 3) := by decide +kernel
theorem dX0_cheapestHaulier_23 : decode cX0_cheapestHaulier 23 = .ok (.iload_n 2, 1) := by decide +kernel
theorem dX0_cheapestHaulier_24 : decode cX0_cheapestHaulier 24 = .ok (.iconst (-1), 1) := by decide +kernel
theorem dX0_cheapestHaulier_25 : decode cX0_cheapestHaulier 25 = .ok (.if_icmp .eq 14, 3) := by decide +kernel
theorem dX0_cheapestHaulier_28 : decode cX0_cheapestHaulier 28 = .ok (.iload 4, 2) := by decide +kernel
theorem dX0_cheapestHaulier_30 : decode cX0_cheapestHaulier 30 = .ok (.aload_n 0, 1) := by decide +kernel
theorem dX0_cheapestHaulier_31 : decode cX0_cheapestHaulier 31 = .ok (.iload_n 1, 1) := by decide +kernel
theorem dX0_cheapestHaulier_32 : decode cX0_cheapestHaulier 32 = .ok (.iload_n 2, 1) := by decide +kernel
theorem dX0_cheapestHaulier_33 : decode cX0_cheapestHaulier 33 = .ok (.invokevirtual 49, 3) := by decide +kernel
theorem dX0_cheapestHaulier_36 : decode cX0_cheapestHaulier 36 = .ok (.if_icmp .ge 5, 3) := by decide +kernel
theorem dX0_cheapestHaulier_39 : decode cX0_cheapestHaulier 39 = .ok (.iload_n 3, 1) := by decide +kernel
theorem dX0_cheapestHaulier_40 : decode cX0_cheapestHaulier 40 = .ok (.istore_n 2, 1) := by decide +kernel
theorem dX0_cheapestHaulier_41 : decode cX0_cheapestHaulier 41 = .ok (.iinc 3 1, 3) := by decide +kernel
theorem dX0_cheapestHaulier_44 : decode cX0_cheapestHaulier 44 = .ok (.goto (-40), 3) := by decide +kernel
theorem dX0_cheapestHaulier_47 : decode cX0_cheapestHaulier 47 = .ok (.iload_n 2, 1) := by decide +kernel
theorem dX0_cheapestHaulier_48 : decode cX0_cheapestHaulier 48 = .ok (.ireturn, 1) := by decide +kernel
theorem dX0_giveTo_0 : decode cX0_giveTo 0 = .ok (.aload_n 0, 1) := by decide +kernel
theorem dX0_giveTo_1 : decode cX0_giveTo 1 = .ok (.iload_n 1, 1) := by decide +kernel
theorem dX0_giveTo_2 : decode cX0_giveTo 2 = .ok (.iload_n 2, 1) := by decide +kernel
theorem dX0_giveTo_3 : decode cX0_giveTo 3 = .ok (.invokevirtual 45, 3) := by decide +kernel
theorem dX0_giveTo_6 : decode cX0_giveTo 6 = .ok (.ifCond .eq 22, 3) := by decide +kernel
theorem dX0_giveTo_9 : decode cX0_giveTo 9 = .ok (.aload_n 0, 1) := by decide +kernel
theorem dX0_giveTo_10 : decode cX0_giveTo 10 = .ok (.getfield 18, 3) := by decide +kernel
theorem dX0_giveTo_13 : decode cX0_giveTo 13 = .ok (.iload_n 1, 1) := by decide +kernel
theorem dX0_giveTo_14 : decode cX0_giveTo 14 = .ok (.iconst 1, 1) := by decide +kernel
theorem dX0_giveTo_15 : decode cX0_giveTo 15 = .ok (.iastore, 1) := by decide +kernel
theorem dX0_giveTo_16 : decode cX0_giveTo 16 = .ok (.aload_n 0, 1) := by decide +kernel
theorem dX0_giveTo_17 : decode cX0_giveTo 17 = .ok (.getfield 21, 3) := by decide +kernel
theorem dX0_giveTo_20 : decode cX0_giveTo 20 = .ok (.iload_n 1, 1) := by decide +kernel
theorem dX0_giveTo_21 : decode cX0_giveTo 21 = .ok (.aload_n 0, 1) := by decide +kernel
theorem dX0_giveTo_22 : decode cX0_giveTo 22 = .ok (.iload_n 1, 1) := by decide +kernel
theorem dX0_giveTo_23 : decode cX0_giveTo 23 = .ok (.iload_n 2, 1) := by decide +kernel
theorem dX0_giveTo_24 : decode cX0_giveTo 24 = .ok (.invokevirtual 49, 3) := by decide +kernel
theorem dX0_giveTo_27 : decode cX0_giveTo 27 = .ok (.iastore, 1) := by decide +kernel
theorem dX0_giveTo_28 : decode cX0_giveTo 28 = .ok (.return_, 1) := by decide +kernel
theorem dX0_finish_0 : decode cX0_finish 0 = .ok (.iload_n 1, 1) := by decide +kernel
theorem dX0_finish_1 : decode cX0_finish 1 = .ok (.ifCond .lt 11, 3) := by decide +kernel
theorem dX0_finish_4 : decode cX0_finish 4 = .ok (.iload_n 1, 1) := by decide +kernel
theorem dX0_finish_5 : decode cX0_finish 5 = .ok (.aload_n 0, 1) := by decide +kernel
theorem dX0_finish_6 : decode cX0_finish 6 = .ok (.getfield 27, 3) := by decide +kernel
theorem dX0_finish_9 : decode cX0_finish 9 = .ok (.if_icmp .lt 5, 3) := by decide +kernel
theorem dX0_finish_12 : decode cX0_finish 12 = .ok (.iconst 0, 1) := by decide +kernel
theorem dX0_finish_13 : decode cX0_finish 13 = .ok (.ireturn, 1) := by decide +kernel
theorem dX0_finish_14 : decode cX0_finish 14 = .ok (.aload_n 0, 1) := by decide +kernel
theorem dX0_finish_15 : decode cX0_finish 15 = .ok (.getfield 18, 3) := by decide +kernel
theorem dX0_finish_18 : decode cX0_finish 18 = .ok (.iload_n 1, 1) := by decide +kernel
theorem dX0_finish_19 : decode cX0_finish 19 = .ok (.iconst 2, 1) := by decide +kernel
theorem dX0_finish_20 : decode cX0_finish 20 = .ok (.iastore, 1) := by decide +kernel
theorem dX0_finish_21 : decode cX0_finish 21 = .ok (.aload_n 0, 1) := by decide +kernel
theorem dX0_finish_22 : decode cX0_finish 22 = .ok (.dup, 1) := by decide +kernel
theorem dX0_finish_23 : decode cX0_finish 23 = .ok (.getfield 31, 3) := by decide +kernel
theorem dX0_finish_26 : decode cX0_finish 26 = .ok (.aload_n 0, 1) := by decide +kernel
theorem dX0_finish_27 : decode cX0_finish 27 = .ok (.getfield 21, 3) := by decide +kernel
theorem dX0_finish_30 : decode cX0_finish 30 = .ok (.iload_n 1, 1) := by decide +kernel
theorem dX0_finish_31 : decode cX0_finish 31 = .ok (.iaload, 1) := by decide +kernel
theorem dX0_finish_32 : decode cX0_finish 32 = .ok (.iadd, 1) := by decide +kernel
theorem dX0_finish_33 : decode cX0_finish 33 = .ok (.putfield 31, 3) := by decide +kernel
theorem dX0_finish_36 : decode cX0_finish 36 = .ok (.aload_n 0, 1) := by decide +kernel
theorem dX0_finish_37 : decode cX0_finish 37 = .ok (.getfield 21, 3) := by decide +kernel
theorem dX0_finish_40 : decode cX0_finish 40 = .ok (.iload_n 1, 1) := by decide +kernel
theorem dX0_finish_41 : decode cX0_finish 41 = .ok (.iaload, 1) := by decide +kernel
theorem dX0_finish_42 : decode cX0_finish 42 = .ok (.ireturn, 1) := by decide +kernel
theorem dX0_endDay_0 : decode cX0_endDay 0 = .ok (.iconst 0, 1) := by decide +kernel
theorem dX0_endDay_1 : decode cX0_endDay 1 = .ok (.istore_n 2, 1) := by decide +kernel
theorem dX0_endDay_2 : decode cX0_endDay 2 = .ok (.iload_n 2, 1) := by decide +kernel
theorem dX0_endDay_3 : decode cX0_endDay 3 = .ok (.aload_n 0, 1) := by decide +kernel
theorem dX0_endDay_4 : decode cX0_endDay 4 = .ok (.getfield 27, 3) := by decide +kernel
theorem dX0_endDay_7 : decode cX0_endDay 7 = .ok (.if_icmp .ge 45, 3) := by decide +kernel
theorem dX0_endDay_10 : decode cX0_endDay 10 = .ok (.aload_n 0, 1) := by decide +kernel
theorem dX0_endDay_11 : decode cX0_endDay 11 = .ok (.iload_n 2, 1) := by decide +kernel
theorem dX0_endDay_12 : decode cX0_endDay 12 = .ok (.invokevirtual 41, 3) := by decide +kernel
theorem dX0_endDay_15 : decode cX0_endDay 15 = .ok (.ifCond .eq 31, 3) := by decide +kernel
theorem dX0_endDay_18 : decode cX0_endDay 18 = .ok (.aload_n 0, 1) := by decide +kernel
theorem dX0_endDay_19 : decode cX0_endDay 19 = .ok (.getfield 15, 3) := by decide +kernel
theorem dX0_endDay_22 : decode cX0_endDay 22 = .ok (.iload_n 2, 1) := by decide +kernel
theorem dX0_endDay_23 : decode cX0_endDay 23 = .ok (.iaload, 1) := by decide +kernel
theorem dX0_endDay_24 : decode cX0_endDay 24 = .ok (.iload_n 1, 1) := by decide +kernel
theorem dX0_endDay_25 : decode cX0_endDay 25 = .ok (.if_icmp .ne 21, 3) := by decide +kernel
theorem dX0_endDay_28 : decode cX0_endDay 28 = .ok (.aload_n 0, 1) := by decide +kernel
theorem dX0_endDay_29 : decode cX0_endDay 29 = .ok (.getfield 18, 3) := by decide +kernel
theorem dX0_endDay_32 : decode cX0_endDay 32 = .ok (.iload_n 2, 1) := by decide +kernel
theorem dX0_endDay_33 : decode cX0_endDay 33 = .ok (.iconst 3, 1) := by decide +kernel
theorem dX0_endDay_34 : decode cX0_endDay 34 = .ok (.iastore, 1) := by decide +kernel
theorem dX0_endDay_35 : decode cX0_endDay 35 = .ok (.aload_n 0, 1) := by decide +kernel
theorem dX0_endDay_36 : decode cX0_endDay 36 = .ok (.dup, 1) := by decide +kernel
theorem dX0_endDay_37 : decode cX0_endDay 37 = .ok (.getfield 34, 3) := by decide +kernel
theorem dX0_endDay_40 : decode cX0_endDay 40 = .ok (.bipush 50, 2) := by decide +kernel
theorem dX0_endDay_42 : decode cX0_endDay 42 = .ok (.iadd, 1) := by decide +kernel
theorem dX0_endDay_43 : decode cX0_endDay 43 = .ok (.putfield 34, 3) := by decide +kernel
theorem dX0_endDay_46 : decode cX0_endDay 46 = .ok (.iinc 2 1, 3) := by decide +kernel
theorem dX0_endDay_49 : decode cX0_endDay 49 = .ok (.goto (-47), 3) := by decide +kernel
theorem dX0_endDay_52 : decode cX0_endDay 52 = .ok (.return_, 1) := by decide +kernel
theorem dX1_init_0 : decode cX1_init 0 = .ok (.aload_n 0, 1) := by decide +kernel
theorem dX1_init_1 : decode cX1_init 1 = .ok (.invokespecial 3, 3) := by decide +kernel
theorem dX1_init_4 : decode cX1_init 4 = .ok (.aload_n 0, 1) := by decide +kernel
theorem dX1_init_5 : decode cX1_init 5 = .ok (.bipush 6, 2) := by decide +kernel
theorem dX1_init_7 : decode cX1_init 7 = .ok (.newarray .int, 2) := by decide +kernel
theorem dX1_init_9 : decode cX1_init 9 = .ok (.putfield 9, 3) := by decide +kernel
theorem dX1_init_12 : decode cX1_init 12 = .ok (.aload_n 0, 1) := by decide +kernel
theorem dX1_init_13 : decode cX1_init 13 = .ok (.bipush 30, 2) := by decide +kernel
theorem dX1_init_15 : decode cX1_init 15 = .ok (.newarray .int, 2) := by decide +kernel
theorem dX1_init_17 : decode cX1_init 17 = .ok (.putfield 15, 3) := by decide +kernel
theorem dX1_init_20 : decode cX1_init 20 = .ok (.aload_n 0, 1) := by decide +kernel
theorem dX1_init_21 : decode cX1_init 21 = .ok (.bipush 30, 2) := by decide +kernel
theorem dX1_init_23 : decode cX1_init 23 = .ok (.newarray .int, 2) := by decide +kernel
theorem dX1_init_25 : decode cX1_init 25 = .ok (.putfield 18, 3) := by decide +kernel
theorem dX1_init_28 : decode cX1_init 28 = .ok (.return_, 1) := by decide +kernel
theorem dX1_copyFrom_0 : decode cX1_copyFrom 0 = .ok (.aload_n 1, 1) := by decide +kernel
theorem dX1_copyFrom_1 : decode cX1_copyFrom 1 = .ok (.getfield 9, 3) := by decide +kernel
theorem dX1_copyFrom_4 : decode cX1_copyFrom 4 = .ok (.iconst 0, 1) := by decide +kernel
theorem dX1_copyFrom_5 : decode cX1_copyFrom 5 = .ok (.aload_n 0, 1) := by decide +kernel
theorem dX1_copyFrom_6 : decode cX1_copyFrom 6 = .ok (.getfield 9, 3) := by decide +kernel
theorem dX1_copyFrom_9 : decode cX1_copyFrom 9 = .ok (.iconst 0, 1) := by decide +kernel
theorem dX1_copyFrom_10 : decode cX1_copyFrom 10 = .ok (.bipush 6, 2) := by decide +kernel
theorem dX1_copyFrom_12 : decode cX1_copyFrom 12 = .ok (.invokestatic 21, 3) := by decide +kernel
theorem dX1_copyFrom_15 : decode cX1_copyFrom 15 = .ok (.aload_n 1, 1) := by decide +kernel
theorem dX1_copyFrom_16 : decode cX1_copyFrom 16 = .ok (.getfield 15, 3) := by decide +kernel
theorem dX1_copyFrom_19 : decode cX1_copyFrom 19 = .ok (.iconst 0, 1) := by decide +kernel
theorem dX1_copyFrom_20 : decode cX1_copyFrom 20 = .ok (.aload_n 0, 1) := by decide +kernel
theorem dX1_copyFrom_21 : decode cX1_copyFrom 21 = .ok (.getfield 15, 3) := by decide +kernel
theorem dX1_copyFrom_24 : decode cX1_copyFrom 24 = .ok (.iconst 0, 1) := by decide +kernel
theorem dX1_copyFrom_25 : decode cX1_copyFrom 25 = .ok (.bipush 30, 2) := by decide +kernel
theorem dX1_copyFrom_27 : decode cX1_copyFrom 27 = .ok (.invokestatic 21, 3) := by decide +kernel
theorem dX1_copyFrom_30 : decode cX1_copyFrom 30 = .ok (.aload_n 1, 1) := by decide +kernel
theorem dX1_copyFrom_31 : decode cX1_copyFrom 31 = .ok (.getfield 18, 3) := by decide +kernel
theorem dX1_copyFrom_34 : decode cX1_copyFrom 34 = .ok (.iconst 0, 1) := by decide +kernel
theorem dX1_copyFrom_35 : decode cX1_copyFrom 35 = .ok (.aload_n 0, 1) := by decide +kernel
theorem dX1_copyFrom_36 : decode cX1_copyFrom 36 = .ok (.getfield 18, 3) := by decide +kernel
theorem dX1_copyFrom_39 : decode cX1_copyFrom 39 = .ok (.iconst 0, 1) := by decide +kernel
theorem dX1_copyFrom_40 : decode cX1_copyFrom 40 = .ok (.bipush 30, 2) := by decide +kernel
theorem dX1_copyFrom_42 : decode cX1_copyFrom 42 = .ok (.invokestatic 21, 3) := by decide +kernel
theorem dX1_copyFrom_45 : decode cX1_copyFrom 45 = .ok (.return_, 1) := by decide +kernel
theorem dX1_setWeight_0 : decode cX1_setWeight 0 = .ok (.iload_n 1, 1) := by decide +kernel
theorem dX1_setWeight_1 : decode cX1_setWeight 1 = .ok (.ifCond .lt 16, 3) := by decide +kernel
theorem dX1_setWeight_4 : decode cX1_setWeight 4 = .ok (.iload_n 1, 1) := by decide +kernel
theorem dX1_setWeight_5 : decode cX1_setWeight 5 = .ok (.bipush 30, 2) := by decide +kernel
theorem dX1_setWeight_7 : decode cX1_setWeight 7 = .ok (.if_icmp .ge 10, 3) := by decide +kernel
theorem dX1_setWeight_10 : decode cX1_setWeight 10 = .ok (.aload_n 0, 1) := by decide +kernel
theorem dX1_setWeight_11 : decode cX1_setWeight 11 = .ok (.getfield 18, 3) := by decide +kernel
theorem dX1_setWeight_14 : decode cX1_setWeight 14 = .ok (.iload_n 1, 1) := by decide +kernel
theorem dX1_setWeight_15 : decode cX1_setWeight 15 = .ok (.iload_n 2, 1) := by decide +kernel
theorem dX1_setWeight_16 : decode cX1_setWeight 16 = .ok (.iastore, 1) := by decide +kernel
theorem dX1_setWeight_17 : decode cX1_setWeight 17 = .ok (.return_, 1) := by decide +kernel
theorem dX1_weightOf_0 : decode cX1_weightOf 0 = .ok (.iload_n 1, 1) := by decide +kernel
theorem dX1_weightOf_1 : decode cX1_weightOf 1 = .ok (.ifCond .lt 18, 3) := by decide +kernel
theorem dX1_weightOf_4 : decode cX1_weightOf 4 = .ok (.iload_n 1, 1) := by decide +kernel
theorem dX1_weightOf_5 : decode cX1_weightOf 5 = .ok (.bipush 30, 2) := by decide +kernel
theorem dX1_weightOf_7 : decode cX1_weightOf 7 = .ok (.if_icmp .ge 12, 3) := by decide +kernel
theorem dX1_weightOf_10 : decode cX1_weightOf 10 = .ok (.aload_n 0, 1) := by decide +kernel
theorem dX1_weightOf_11 : decode cX1_weightOf 11 = .ok (.getfield 18, 3) := by decide +kernel
theorem dX1_weightOf_14 : decode cX1_weightOf 14 = .ok (.iload_n 1, 1) := by decide +kernel
theorem dX1_weightOf_15 : decode cX1_weightOf 15 = .ok (.iaload, 1) := by decide +kernel
theorem dX1_weightOf_16 : decode cX1_weightOf 16 = .ok (.goto 4, 3) := by decide +kernel
theorem dX1_weightOf_19 : decode cX1_weightOf 19 = .ok (.iconst (-1), 1) := by decide +kernel
theorem dX1_weightOf_20 : decode cX1_weightOf 20 = .ok (.ireturn, 1) := by decide +kernel
theorem dX1_heightOf_0 : decode cX1_heightOf 0 = .ok (.iload_n 1, 1) := by decide +kernel
theorem dX1_heightOf_1 : decode cX1_heightOf 1 = .ok (.ifCond .lt 18, 3) := by decide +kernel
theorem dX1_heightOf_4 : decode cX1_heightOf 4 = .ok (.iload_n 1, 1) := by decide +kernel
theorem dX1_heightOf_5 : decode cX1_heightOf 5 = .ok (.bipush 6, 2) := by decide +kernel
theorem dX1_heightOf_7 : decode cX1_heightOf 7 = .ok (.if_icmp .ge 12, 3) := by decide +kernel
theorem dX1_heightOf_10 : decode cX1_heightOf 10 = .ok (.aload_n 0, 1) := by decide +kernel
theorem dX1_heightOf_11 : decode cX1_heightOf 11 = .ok (.getfield 9, 3) := by decide +kernel
theorem dX1_heightOf_14 : decode cX1_heightOf 14 = .ok (.iload_n 1, 1) := by decide +kernel
theorem dX1_heightOf_15 : decode cX1_heightOf 15 = .ok (.iaload, 1) := by decide +kernel
theorem dX1_heightOf_16 : decode cX1_heightOf 16 = .ok (.goto 4, 3) := by decide +kernel
theorem dX1_heightOf_19 : decode cX1_heightOf 19 = .ok (.iconst 0, 1) := by decide +kernel
theorem dX1_heightOf_20 : decode cX1_heightOf 20 = .ok (.ireturn, 1) := by decide +kernel
theorem dX1_crateAt_0 : decode cX1_crateAt 0 = .ok (.iload_n 2, 1) := by decide +kernel
theorem dX1_crateAt_1 : decode cX1_crateAt 1 = .ok (.ifCond .lt 25, 3) := by decide +kernel
theorem dX1_crateAt_4 : decode cX1_crateAt 4 = .ok (.iload_n 2, 1) := by decide +kernel
theorem dX1_crateAt_5 : decode cX1_crateAt 5 = .ok (.aload_n 0, 1) := by decide +kernel
theorem dX1_crateAt_6 : decode cX1_crateAt 6 = .ok (.iload_n 1, 1) := by decide +kernel
theorem dX1_crateAt_7 : decode cX1_crateAt 7 = .ok (.invokevirtual 27, 3) := by decide +kernel
theorem dX1_crateAt_10 : decode cX1_crateAt 10 = .ok (.if_icmp .ge 16, 3) := by decide +kernel
theorem dX1_crateAt_13 : decode cX1_crateAt 13 = .ok (.aload_n 0, 1) := by decide +kernel
theorem dX1_crateAt_14 : decode cX1_crateAt 14 = .ok (.getfield 15, 3) := by decide +kernel
theorem dX1_crateAt_17 : decode cX1_crateAt 17 = .ok (.iload_n 1, 1) := by decide +kernel
theorem dX1_crateAt_18 : decode cX1_crateAt 18 = .ok (.iconst 5, 1) := by decide +kernel
theorem dX1_crateAt_19 : decode cX1_crateAt 19 = .ok (.imul, 1) := by decide +kernel
theorem dX1_crateAt_20 : decode cX1_crateAt 20 = .ok (.iload_n 2, 1) := by decide +kernel
theorem dX1_crateAt_21 : decode cX1_crateAt 21 = .ok (.iadd, 1) := by decide +kernel
theorem dX1_crateAt_22 : decode cX1_crateAt 22 = .ok (.iaload, 1) := by decide +kernel
theorem dX1_crateAt_23 : decode cX1_crateAt 23 = .ok (.goto 4, 3) := by decide +kernel
theorem dX1_crateAt_26 : decode cX1_crateAt 26 = .ok (.iconst (-1), 1) := by decide +kernel
theorem dX1_crateAt_27 : decode cX1_crateAt 27 = .ok (.ireturn, 1) := by decide +kernel
theorem dX1_topOf_0 : decode cX1_topOf 0 = .ok (.aload_n 0, 1) := by decide +kernel
theorem dX1_topOf_1 : decode cX1_topOf 1 = .ok (.iload_n 1, 1) := by decide +kernel
theorem dX1_topOf_2 : decode cX1_topOf 2 = .ok (.invokevirtual 27, 3) := by decide +kernel
theorem dX1_topOf_5 : decode cX1_topOf 5 = .ok (.istore_n 2, 1) := by decide +kernel
theorem dX1_topOf_6 : decode cX1_topOf 6 = .ok (.iload_n 2, 1) := by decide +kernel
theorem dX1_topOf_7 : decode cX1_topOf 7 = .ok (.ifCond .le 18, 3) := by decide +kernel
theorem dX1_topOf_10 : decode cX1_topOf 10 = .ok (.aload_n 0, 1) := by decide +kernel
theorem dX1_topOf_11 : decode cX1_topOf 11 = .ok (.getfield 15, 3) := by decide +kernel
theorem dX1_topOf_14 : decode cX1_topOf 14 = .ok (.iload_n 1, 1) := by decide +kernel
theorem dX1_topOf_15 : decode cX1_topOf 15 = .ok (.iconst 5, 1) := by decide +kernel
theorem dX1_topOf_16 : decode cX1_topOf 16 = .ok (.imul, 1) := by decide +kernel
theorem dX1_topOf_17 : decode cX1_topOf 17 = .ok (.iload_n 2, 1) := by decide +kernel
theorem dX1_topOf_18 : decode cX1_topOf 18 = .ok (.iadd, 1) := by decide +kernel
theorem dX1_topOf_19 : decode cX1_topOf 19 = .ok (.iconst 1, 1) := by decide +kernel
theorem dX1_topOf_20 : decode cX1_topOf 20 = .ok (.isub, 1) := by decide +kernel
theorem dX1_topOf_21 : decode cX1_topOf 21 = .ok (.iaload, 1) := by decide +kernel
theorem dX1_topOf_22 : decode cX1_topOf 22 = .ok (.goto 4, 3) := by decide +kernel
theorem dX1_topOf_25 : decode cX1_topOf 25 = .ok (.iconst (-1), 1) := by decide +kernel
theorem dX1_topOf_26 : decode cX1_topOf 26 = .ok (.ireturn, 1) := by decide +kernel
theorem dX1_stackHolding_0 : decode cX1_stackHolding 0 = .ok (.iconst 0, 1) := by decide +kernel
theorem dX1_stackHolding_1 : decode cX1_stackHolding 1 = .ok (.istore_n 2, 1) := by decide +kernel
theorem dX1_stackHolding_2 : decode cX1_stackHolding 2 = .ok (.iload_n 2, 1) := by decide +kernel
theorem dX1_stackHolding_3 : decode cX1_stackHolding 3 = .ok (.bipush 6, 2) := by decide +kernel
theorem dX1_stackHolding_5 : decode cX1_stackHolding 5 = .ok (.if_icmp .ge 43, 3) := by decide +kernel
theorem dX1_stackHolding_8 : decode cX1_stackHolding 8 = .ok (.iconst 0, 1) := by decide +kernel
theorem dX1_stackHolding_9 : decode cX1_stackHolding 9 = .ok (.istore_n 3, 1) := by decide +kernel
theorem dX1_stackHolding_10 : decode cX1_stackHolding 10 = .ok (.iload_n 3, 1) := by decide +kernel
theorem dX1_stackHolding_11 : decode cX1_stackHolding 11 = .ok (.aload_n 0, 1) := by decide +kernel
theorem dX1_stackHolding_12 : decode cX1_stackHolding 12 = .ok (.getfield 9, 3) := by decide +kernel
theorem dX1_stackHolding_15 : decode cX1_stackHolding 15 = .ok (.iload_n 2, 1) := by decide +kernel
theorem dX1_stackHolding_16 : decode cX1_stackHolding 16 = .ok (.iaload, 1) := by decide +kernel
theorem dX1_stackHolding_17 : decode cX1_stackHolding 17 = .ok (.if_icmp .ge 25, 3) := by decide +kernel
theorem dX1_stackHolding_20 : decode cX1_stackHolding 20 = .ok (.aload_n 0, 1) := by decide +kernel
theorem dX1_stackHolding_21 : decode cX1_stackHolding 21 = .ok (.getfield 15, 3) := by decide +kernel
theorem dX1_stackHolding_24 : decode cX1_stackHolding 24 = .ok (.iload_n 2, 1) := by decide +kernel
theorem dX1_stackHolding_25 : decode cX1_stackHolding 25 = .ok (.iconst 5, 1) := by decide +kernel
theorem dX1_stackHolding_26 : decode cX1_stackHolding 26 = .ok (.imul, 1) := by decide +kernel
theorem dX1_stackHolding_27 : decode cX1_stackHolding 27 = .ok (.iload_n 3, 1) := by decide +kernel
theorem dX1_stackHolding_28 : decode cX1_stackHolding 28 = .ok (.iadd, 1) := by decide +kernel
theorem dX1_stackHolding_29 : decode cX1_stackHolding 29 = .ok (.iaload, 1) := by decide +kernel
theorem dX1_stackHolding_30 : decode cX1_stackHolding 30 = .ok (.iload_n 1, 1) := by decide +kernel
theorem dX1_stackHolding_31 : decode cX1_stackHolding 31 = .ok (.if_icmp .ne 5, 3) := by decide +kernel
theorem dX1_stackHolding_34 : decode cX1_stackHolding 34 = .ok (.iload_n 2, 1) := by decide +kernel
theorem dX1_stackHolding_35 : decode cX1_stackHolding 35 = .ok (.ireturn, 1) := by decide +kernel
theorem dX1_stackHolding_36 : decode cX1_stackHolding 36 = .ok (.iinc 3 1, 3) := by decide +kernel
theorem dX1_stackHolding_39 : decode cX1_stackHolding 39 = .ok (.goto (-29), 3) := by decide +kernel
theorem dX1_stackHolding_42 : decode cX1_stackHolding 42 = .ok (.iinc 2 1, 3) := by decide +kernel
theorem dX1_stackHolding_45 : decode cX1_stackHolding 45 = .ok (.goto (-43), 3) := by decide +kernel
theorem dX1_stackHolding_48 : decode cX1_stackHolding 48 = .ok (.iconst (-1), 1) := by decide +kernel
theorem dX1_stackHolding_49 : decode cX1_stackHolding 49 = .ok (.ireturn, 1) := by decide +kernel
theorem dX1_canTake_0 : decode cX1_canTake 0 = .ok (.aload_n 0, 1) := by decide +kernel
theorem dX1_canTake_1 : decode cX1_canTake 1 = .ok (.iload_n 1, 1) := by decide +kernel
theorem dX1_canTake_2 : decode cX1_canTake 2 = .ok (.invokevirtual 27, 3) := by decide +kernel
theorem dX1_canTake_5 : decode cX1_canTake 5 = .ok (.istore 4, 2) := by decide +kernel
theorem dX1_canTake_7 : decode cX1_canTake 7 = .ok (.iload 4, 2) := by decide +kernel
theorem dX1_canTake_9 : decode cX1_canTake 9 = .ok (.iload_n 3, 1) := by decide +kernel
theorem dX1_canTake_10 : decode cX1_canTake 10 = .ok (.if_icmp .ge 25, 3) := by decide +kernel
theorem dX1_canTake_13 : decode cX1_canTake 13 = .ok (.iload 4, 2) := by decide +kernel
theorem dX1_canTake_15 : decode cX1_canTake 15 = .ok (.ifCond .eq 16, 3) := by decide +kernel
theorem dX1_canTake_18 : decode cX1_canTake 18 = .ok (.aload_n 0, 1) := by decide +kernel
theorem dX1_canTake_19 : decode cX1_canTake 19 = .ok (.aload_n 0, 1) := by decide +kernel
theorem dX1_canTake_20 : decode cX1_canTake 20 = .ok (.iload_n 1, 1) := by decide +kernel
theorem dX1_canTake_21 : decode cX1_canTake 21 = .ok (.invokevirtual 31, 3) := by decide +kernel
theorem dX1_canTake_24 : decode cX1_canTake 24 = .ok (.invokevirtual 34, 3) := by decide +kernel
theorem dX1_canTake_27 : decode cX1_canTake 27 = .ok (.iload_n 2, 1) := by decide +kernel
theorem dX1_canTake_28 : decode cX1_canTake 28 = .ok (.if_icmp .lt 7, 3) := by decide +kernel
theorem dX1_canTake_31 : decode cX1_canTake 31 = .ok (.iconst 1, 1) := by decide +kernel
theorem dX1_canTake_32 : decode cX1_canTake 32 = .ok (.goto 4, 3) := by decide +kernel
theorem dX1_canTake_35 : decode cX1_canTake 35 = .ok (.iconst 0, 1) := by decide +kernel
theorem dX1_canTake_36 : decode cX1_canTake 36 = .ok (.ireturn, 1) := by decide +kernel
theorem dX1_put_0 : decode cX1_put 0 = .ok (.aload_n 0, 1) := by decide +kernel
theorem dX1_put_1 : decode cX1_put 1 = .ok (.iload_n 1, 1) := by decide +kernel
theorem dX1_put_2 : decode cX1_put 2 = .ok (.invokevirtual 27, 3) := by decide +kernel
theorem dX1_put_5 : decode cX1_put 5 = .ok (.istore_n 3, 1) := by decide +kernel
theorem dX1_put_6 : decode cX1_put 6 = .ok (.iload_n 1, 1) := by decide +kernel
theorem dX1_put_7 : decode cX1_put 7 = .ok (.ifCond .lt 34, 3) := by decide +kernel
theorem dX1_put_10 : decode cX1_put 10 = .ok (.iload_n 1, 1) := by decide +kernel
theorem dX1_put_11 : decode cX1_put 11 = .ok (.bipush 6, 2) := by decide +kernel
theorem dX1_put_13 : decode cX1_put 13 = .ok (.if_icmp .ge 28, 3) := by decide +kernel
theorem dX1_put_16 : decode cX1_put 16 = .ok (.iload_n 3, 1) := by decide +kernel
theorem dX1_put_17 : decode cX1_put 17 = .ok (.iconst 5, 1) := by decide +kernel
theorem dX1_put_18 : decode cX1_put 18 = .ok (.if_icmp .ge 23, 3) := by decide +kernel
theorem dX1_put_21 : decode cX1_put 21 = .ok (.aload_n 0, 1) := by decide +kernel
theorem dX1_put_22 : decode cX1_put 22 = .ok (.getfield 15, 3) := by decide +kernel
theorem dX1_put_25 : decode cX1_put 25 = .ok (.iload_n 1, 1) := by decide +kernel
theorem dX1_put_26 : decode cX1_put 26 = .ok (.iconst 5, 1) := by decide +kernel
theorem dX1_put_27 : decode cX1_put 27 = .ok (.imul, 1) := by decide +kernel
theorem dX1_put_28 : decode cX1_put 28 = .ok (.iload_n 3, 1) := by decide +kernel
theorem dX1_put_29 : decode cX1_put 29 = .ok (.iadd, 1) := by decide +kernel
theorem dX1_put_30 : decode cX1_put 30 = .ok (.iload_n 2, 1) := by decide +kernel
theorem dX1_put_31 : decode cX1_put 31 = .ok (.iastore, 1) := by decide +kernel
theorem dX1_put_32 : decode cX1_put 32 = .ok (.aload_n 0, 1) := by decide +kernel
theorem dX1_put_33 : decode cX1_put 33 = .ok (.getfield 9, 3) := by decide +kernel
theorem dX1_put_36 : decode cX1_put 36 = .ok (.iload_n 1, 1) := by decide +kernel
theorem dX1_put_37 : decode cX1_put 37 = .ok (.iload_n 3, 1) := by decide +kernel
theorem dX1_put_38 : decode cX1_put 38 = .ok (.iconst 1, 1) := by decide +kernel
theorem dX1_put_39 : decode cX1_put 39 = .ok (.iadd, 1) := by decide +kernel
theorem dX1_put_40 : decode cX1_put 40 = .ok (.iastore, 1) := by decide +kernel
theorem dX1_put_41 : decode cX1_put 41 = .ok (.return_, 1) := by decide +kernel
theorem dX1_takeTop_0 : decode cX1_takeTop 0 = .ok (.aload_n 0, 1) := by decide +kernel
theorem dX1_takeTop_1 : decode cX1_takeTop 1 = .ok (.iload_n 1, 1) := by decide +kernel
theorem dX1_takeTop_2 : decode cX1_takeTop 2 = .ok (.invokevirtual 31, 3) := by decide +kernel
theorem dX1_takeTop_5 : decode cX1_takeTop 5 = .ok (.istore_n 2, 1) := by decide +kernel
theorem dX1_takeTop_6 : decode cX1_takeTop 6 = .ok (.iload_n 2, 1) := by decide +kernel
theorem dX1_takeTop_7 : decode cX1_takeTop 7 = .ok (.iconst (-1), 1) := by decide +kernel
theorem dX1_takeTop_8 : decode cX1_takeTop 8 = .ok (.if_icmp .eq 13, 3) := by decide +kernel
theorem dX1_takeTop_11 : decode cX1_takeTop 11 = .ok (.aload_n 0, 1) := by decide +kernel
theorem dX1_takeTop_12 : decode cX1_takeTop 12 = .ok (.getfield 9, 3) := by decide +kernel
theorem dX1_takeTop_15 : decode cX1_takeTop 15 = .ok (.iload_n 1, 1) := by decide +kernel
theorem dX1_takeTop_16 : decode cX1_takeTop 16 = .ok (.dup2, 1) := by decide +kernel
theorem dX1_takeTop_17 : decode cX1_takeTop 17 = .ok (.iaload, 1) := by decide +kernel
theorem dX1_takeTop_18 : decode cX1_takeTop 18 = .ok (.iconst 1, 1) := by decide +kernel
theorem dX1_takeTop_19 : decode cX1_takeTop 19 = .ok (.isub, 1) := by decide +kernel
theorem dX1_takeTop_20 : decode cX1_takeTop 20 = .ok (.iastore, 1) := by decide +kernel
theorem dX1_takeTop_21 : decode cX1_takeTop 21 = .ok (.iload_n 2, 1) := by decide +kernel
theorem dX1_takeTop_22 : decode cX1_takeTop 22 = .ok (.ireturn, 1) := by decide +kernel
theorem dX1_digOut_0 : decode cX1_digOut 0 = .ok (.aload_n 0, 1) := by decide +kernel
theorem dX1_digOut_1 : decode cX1_digOut 1 = .ok (.iload_n 1, 1) := by decide +kernel
theorem dX1_digOut_2 : decode cX1_digOut 2 = .ok (.invokevirtual 37, 3) := by decide +kernel
theorem dX1_digOut_5 : decode cX1_digOut 5 = .ok (.istore_n 3, 1) := by decide +kernel
theorem dX1_digOut_6 : decode cX1_digOut 6 = .ok (.iload_n 3, 1) := by decide +kernel
theorem dX1_digOut_7 : decode cX1_digOut 7 = .ok (.iconst (-1), 1) := by decide +kernel
theorem dX1_digOut_8 : decode cX1_digOut 8 = .ok (.if_icmp .ne 5, 3) := by decide +kernel
theorem dX1_digOut_11 : decode cX1_digOut 11 = .ok (.iconst (-1), 1) := by decide +kernel
theorem dX1_digOut_12 : decode cX1_digOut 12 = .ok (.ireturn, 1) := by decide +kernel
theorem dX1_digOut_13 : decode cX1_digOut 13 = .ok (.iconst 1, 1) := by decide +kernel
theorem dX1_digOut_14 : decode cX1_digOut 14 = .ok (.istore 4, 2) := by decide +kernel
theorem dX1_digOut_16 : decode cX1_digOut 16 = .ok (.iload 4, 2) := by decide +kernel
theorem dX1_digOut_18 : decode cX1_digOut 18 = .ok (.iconst 5, 1) := by decide +kernel
theorem dX1_digOut_19 : decode cX1_digOut 19 = .ok (.if_icmp .gt 55, 3) := by decide +kernel
theorem dX1_digOut_22 : decode cX1_digOut 22 = .ok (.aload_n 0, 1) := by decide +kernel
theorem dX1_digOut_23 : decode cX1_digOut 23 = .ok (.iload_n 3, 1) := by decide +kernel
theorem dX1_digOut_24 : decode cX1_digOut 24 = .ok (.invokevirtual 40, 3) := by decide +kernel
theorem dX1_digOut_27 : decode cX1_digOut 27 = .ok (.istore 5, 2) := by decide +kernel
theorem dX1_digOut_29 : decode cX1_digOut 29 = .ok (.iload 5, 2) := by decide +kernel
theorem dX1_digOut_31 : decode cX1_digOut 31 = .ok (.iload_n 1, 1) := by decide +kernel
theorem dX1_digOut_32 : decode cX1_digOut 32 = .ok (.if_icmp .ne 6, 3) := by decide +kernel
theorem dX1_digOut_35 : decode cX1_digOut 35 = .ok (.iload 4, 2) := by decide +kernel
theorem dX1_digOut_37 : decode cX1_digOut 37 = .ok (.ireturn, 1) := by decide +kernel
theorem dX1_digOut_38 : decode cX1_digOut 38 = .ok (.aload_n 0, 1) := by decide +kernel
theorem dX1_digOut_39 : decode cX1_digOut 39 = .ok (.aload_n 0, 1) := by decide +kernel
theorem dX1_digOut_40 : decode cX1_digOut 40 = .ok (.iload 5, 2) := by decide +kernel
theorem dX1_digOut_42 : decode cX1_digOut 42 = .ok (.invokevirtual 34, 3) := by decide +kernel
theorem dX1_digOut_45 : decode cX1_digOut 45 = .ok (.iload_n 3, 1) := by decide +kernel
theorem dX1_digOut_46 : decode cX1_digOut 46 = .ok (.iload_n 2, 1) := by decide +kernel
theorem dX1_digOut_47 : decode cX1_digOut 47 = .ok (.invokevirtual 43, 3) := by decide +kernel
theorem dX1_digOut_50 : decode cX1_digOut 50 = .ok (.istore 6, 2) := by decide +kernel
theorem dX1_digOut_52 : decode cX1_digOut 52 = .ok (.iload 6, 2) := by decide +kernel
theorem dX1_digOut_54 : decode cX1_digOut 54 = .ok (.iconst (-1), 1) := by decide +kernel
theorem dX1_digOut_55 : decode cX1_digOut 55 = .ok (.if_icmp .ne 5, 3) := by decide +kernel
theorem dX1_digOut_58 : decode cX1_digOut 58 = .ok (.iconst (-1), 1) := by decide +kernel
theorem dX1_digOut_59 : decode cX1_digOut 59 = .ok (.ireturn, 1) := by decide +kernel
theorem dX1_digOut_60 : decode cX1_digOut 60 = .ok (.aload_n 0, 1) := by decide +kernel
theorem dX1_digOut_61 : decode cX1_digOut 61 = .ok (.iload 6, 2) := by decide +kernel
theorem dX1_digOut_63 : decode cX1_digOut 63 = .ok (.iload 5, 2) := by decide +kernel
theorem dX1_digOut_65 : decode cX1_digOut 65 = .ok (.invokevirtual 47, 3) := by decide +kernel
theorem dX1_digOut_68 : decode cX1_digOut 68 = .ok (.iinc 4 1, 3) := by decide +kernel
theorem dX1_digOut_71 : decode cX1_digOut 71 = .ok (.goto (-55), 3) := by decide +kernel
theorem dX1_digOut_74 : decode cX1_digOut 74 = .ok (.iconst (-1), 1) := by decide +kernel
theorem dX1_digOut_75 : decode cX1_digOut 75 = .ok (.ireturn, 1) := by decide +kernel
theorem dX1_targetFor_0 : decode cX1_targetFor 0 = .ok (.iconst (-1), 1) := by decide +kernel
theorem dX1_targetFor_1 : decode cX1_targetFor 1 = .ok (.istore 4, 2) := by decide +kernel
theorem dX1_targetFor_3 : decode cX1_targetFor 3 = .ok (.iconst 0, 1) := by decide +kernel
theorem dX1_targetFor_4 : decode cX1_targetFor 4 = .ok (.istore 5, 2) := by decide +kernel
theorem dX1_targetFor_6 : decode cX1_targetFor 6 = .ok (.iload 5, 2) := by decide +kernel
theorem dX1_targetFor_8 : decode cX1_targetFor 8 = .ok (.bipush 6, 2) := by decide +kernel
theorem dX1_targetFor_10 : decode cX1_targetFor 10 = .ok (.if_icmp .ge 51, 3) := by decide +kernel
theorem dX1_targetFor_13 : decode cX1_targetFor 13 = .ok (.iload 5, 2) := by decide +kernel
theorem dX1_targetFor_15 : decode cX1_targetFor 15 = .ok (.iload_n 2, 1) := by decide +kernel
theorem dX1_targetFor_16 : decode cX1_targetFor 16 = .ok (.if_icmp .eq 39, 3) := by decide +kernel
theorem dX1_targetFor_19 : decode cX1_targetFor 19 = .ok (.aload_n 0, 1) := by decide +kernel
theorem dX1_targetFor_20 : decode cX1_targetFor 20 = .ok (.iload 5, 2) := by decide +kernel
theorem dX1_targetFor_22 : decode cX1_targetFor 22 = .ok (.iload_n 1, 1) := by decide +kernel
theorem dX1_targetFor_23 : decode cX1_targetFor 23 = .ok (.iload_n 3, 1) := by decide +kernel
theorem dX1_targetFor_24 : decode cX1_targetFor 24 = .ok (.invokevirtual 51, 3) := by decide +kernel
theorem dX1_targetFor_27 : decode cX1_targetFor 27 = .ok (.ifCond .eq 28, 3) := by decide +kernel
theorem dX1_targetFor_30 : decode cX1_targetFor 30 = .ok (.iload 4, 2) := by decide +kernel
theorem dX1_targetFor_32 : decode cX1_targetFor 32 = .ok (.iconst (-1), 1) := by decide +kernel
theorem dX1_targetFor_33 : decode cX1_targetFor 33 = .ok (.if_icmp .eq 18, 3) := by decide +kernel
theorem dX1_targetFor_36 : decode cX1_targetFor 36 = .ok (.aload_n 0, 1) := by decide +kernel
theorem dX1_targetFor_37 : decode cX1_targetFor 37 = .ok (.iload 5, 2) := by decide +kernel
theorem dX1_targetFor_39 : decode cX1_targetFor 39 = .ok (.invokevirtual 27, 3) := by decide +kernel
theorem dX1_targetFor_42 : decode cX1_targetFor 42 = .ok (.aload_n 0, 1) := by decide +kernel
theorem dX1_targetFor_43 : decode cX1_targetFor 43 = .ok (.iload 4, 2) := by decide +kernel
theorem dX1_targetFor_45 : decode cX1_targetFor 45 = .ok (.invokevirtual 27, 3) := by decide +kernel
theorem dX1_targetFor_48 : decode cX1_targetFor 48 = .ok (.if_icmp .ge 7, 3) := by decide +kernel
theorem dX1_targetFor_51 : decode cX1_targetFor 51 = .ok (.iload 5, 2) := by decide +kernel
theorem dX1_targetFor_53 : decode cX1_targetFor 53 = .ok (.istore 4, 2) := by decide +kernel
theorem dX1_targetFor_55 : decode cX1_targetFor 55 = .ok (.iinc 5 1, 3) := by decide +kernel
theorem dX1_targetFor_58 : decode cX1_targetFor 58 = .ok (.goto (-52), 3) := by decide +kernel
theorem dX1_targetFor_61 : decode cX1_targetFor 61 = .ok (.iload 4, 2) := by decide +kernel
theorem dX1_targetFor_63 : decode cX1_targetFor 63 = .ok (.ireturn, 1) := by decide +kernel
theorem dX1_cratesAbove_0 : decode cX1_cratesAbove 0 = .ok (.iconst 0, 1) := by decide +kernel
theorem dX1_cratesAbove_1 : decode cX1_cratesAbove 1 = .ok (.istore_n 2, 1) := by decide +kernel
theorem dX1_cratesAbove_2 : decode cX1_cratesAbove 2 = .ok (.iconst 0, 1) := by decide +kernel
theorem dX1_cratesAbove_3 : decode cX1_cratesAbove 3 = .ok (.istore_n 3, 1) := by decide +kernel
theorem dX1_cratesAbove_4 : decode cX1_cratesAbove 4 = .ok (.iload_n 3, 1) := by decide +kernel
theorem dX1_cratesAbove_5 : decode cX1_cratesAbove 5 = .ok (.bipush 6, 2) := by decide +kernel
theorem dX1_cratesAbove_7 : decode cX1_cratesAbove 7 = .ok (.if_icmp .ge 24, 3) := by decide +kernel
theorem dX1_cratesAbove_10 : decode cX1_cratesAbove 10 = .ok (.iload_n 2, 1) := by decide +kernel
theorem dX1_cratesAbove_11 : decode cX1_cratesAbove 11 = .ok (.iconst 0, 1) := by decide +kernel
theorem dX1_cratesAbove_12 : decode cX1_cratesAbove 12 = .ok (.aload_n 0, 1) := by decide +kernel
theorem dX1_cratesAbove_13 : decode cX1_cratesAbove 13 = .ok (.getfield 9, 3) := by decide +kernel
theorem dX1_cratesAbove_16 : decode cX1_cratesAbove 16 = .ok (.iload_n 3, 1) := by decide +kernel
theorem dX1_cratesAbove_17 : decode cX1_cratesAbove 17 = .ok (.iaload, 1) := by decide +kernel
theorem dX1_cratesAbove_18 : decode cX1_cratesAbove 18 = .ok (.iload_n 1, 1) := by decide +kernel
theorem dX1_cratesAbove_19 : decode cX1_cratesAbove 19 = .ok (.isub, 1) := by decide +kernel
theorem dX1_cratesAbove_20 : decode cX1_cratesAbove 20 = .ok (.invokestatic 55, 3) := by decide +kernel
theorem dX1_cratesAbove_23 : decode cX1_cratesAbove 23 = .ok (.iadd, 1) := by decide +kernel
theorem dX1_cratesAbove_24 : decode cX1_cratesAbove 24 = .ok (.istore_n 2, 1) := by decide +kernel
theorem dX1_cratesAbove_25 : decode cX1_cratesAbove 25 = .ok (.iinc 3 1, 3) := by decide +kernel
theorem dX1_cratesAbove_28 : decode cX1_cratesAbove 28 = .ok (.goto (-24), 3) := by decide +kernel
theorem dX1_cratesAbove_31 : decode cX1_cratesAbove 31 = .ok (.iload_n 2, 1) := by decide +kernel
theorem dX1_cratesAbove_32 : decode cX1_cratesAbove 32 = .ok (.ireturn, 1) := by decide +kernel
theorem dX1_feeOfOneDay_0 : decode cX1_feeOfOneDay 0 = .ok (.iconst 0, 1) := by decide +kernel
theorem dX1_feeOfOneDay_1 : decode cX1_feeOfOneDay 1 = .ok (.istore_n 1, 1) := by decide +kernel
theorem dX1_feeOfOneDay_2 : decode cX1_feeOfOneDay 2 = .ok (.iconst 0, 1) := by decide +kernel
theorem dX1_feeOfOneDay_3 : decode cX1_feeOfOneDay 3 = .ok (.istore_n 2, 1) := by decide +kernel
theorem dX1_feeOfOneDay_4 : decode cX1_feeOfOneDay 4 = .ok (.iload_n 2, 1) := by decide +kernel
theorem dX1_feeOfOneDay_5 : decode cX1_feeOfOneDay 5 = .ok (.bipush 6, 2) := by decide +kernel
theorem dX1_feeOfOneDay_7 : decode cX1_feeOfOneDay 7 = .ok (.if_icmp .ge 29, 3) := by decide +kernel
theorem dX1_feeOfOneDay_10 : decode cX1_feeOfOneDay 10 = .ok (.iload_n 1, 1) := by decide +kernel
theorem dX1_feeOfOneDay_11 : decode cX1_feeOfOneDay 11 = .ok (.aload_n 0, 1) := by decide +kernel
theorem dX1_feeOfOneDay_12 : decode cX1_feeOfOneDay 12 = .ok (.getfield 9, 3) := by decide +kernel
theorem dX1_feeOfOneDay_15 : decode cX1_feeOfOneDay 15 = .ok (.iload_n 2, 1) := by decide +kernel
theorem dX1_feeOfOneDay_16 : decode cX1_feeOfOneDay 16 = .ok (.iaload, 1) := by decide +kernel
theorem dX1_feeOfOneDay_17 : decode cX1_feeOfOneDay 17 = .ok (.aload_n 0, 1) := by decide +kernel
theorem dX1_feeOfOneDay_18 : decode cX1_feeOfOneDay 18 = .ok (.getfield 9, 3) := by decide +kernel
theorem dX1_feeOfOneDay_21 : decode cX1_feeOfOneDay 21 = .ok (.iload_n 2, 1) := by decide +kernel
theorem dX1_feeOfOneDay_22 : decode cX1_feeOfOneDay 22 = .ok (.iaload, 1) := by decide +kernel
theorem dX1_feeOfOneDay_23 : decode cX1_feeOfOneDay 23 = .ok (.iconst 1, 1) := by decide +kernel
theorem dX1_feeOfOneDay_24 : decode cX1_feeOfOneDay 24 = .ok (.isub, 1) := by decide +kernel
theorem dX1_feeOfOneDay_25 : decode cX1_feeOfOneDay 25 = .ok (.imul, 1) := by decide +kernel
theorem dX1_feeOfOneDay_26 : decode cX1_feeOfOneDay 26 = .ok (.iconst 2, 1) := by decide +kernel
theorem dX1_feeOfOneDay_27 : decode cX1_feeOfOneDay 27 = .ok (.idiv, 1) := by decide +kernel
theorem dX1_feeOfOneDay_28 : decode cX1_feeOfOneDay 28 = .ok (.iadd, 1) := by decide +kernel
theorem dX1_feeOfOneDay_29 : decode cX1_feeOfOneDay 29 = .ok (.istore_n 1, 1) := by decide +kernel
theorem dX1_feeOfOneDay_30 : decode cX1_feeOfOneDay 30 = .ok (.iinc 2 1, 3) := by decide +kernel
theorem dX1_feeOfOneDay_33 : decode cX1_feeOfOneDay 33 = .ok (.goto (-29), 3) := by decide +kernel
theorem dX1_feeOfOneDay_36 : decode cX1_feeOfOneDay 36 = .ok (.iload_n 1, 1) := by decide +kernel
theorem dX1_feeOfOneDay_37 : decode cX1_feeOfOneDay 37 = .ok (.ireturn, 1) := by decide +kernel
theorem dX2_init_0 : decode cX2_init 0 = .ok (.aload_n 0, 1) := by decide +kernel
theorem dX2_init_1 : decode cX2_init 1 = .ok (.invokespecial 3, 3) := by decide +kernel
theorem dX2_init_4 : decode cX2_init 4 = .ok (.aload_n 0, 1) := by decide +kernel
theorem dX2_init_5 : decode cX2_init 5 = .ok (.bipush 32, 2) := by decide +kernel
theorem dX2_init_7 : decode cX2_init 7 = .ok (.newarray .int, 2) := by decide +kernel
theorem dX2_init_9 : decode cX2_init 9 = .ok (.putfield 9, 3) := by decide +kernel
theorem dX2_init_12 : decode cX2_init 12 = .ok (.aload_n 0, 1) := by decide +kernel
theorem dX2_init_13 : decode cX2_init 13 = .ok (.bipush 8, 2) := by decide +kernel
theorem dX2_init_15 : decode cX2_init 15 = .ok (.newarray .int, 2) := by decide +kernel
theorem dX2_init_17 : decode cX2_init 17 = .ok (.putfield 15, 3) := by decide +kernel
theorem dX2_init_20 : decode cX2_init 20 = .ok (.aload_n 0, 1) := by decide +kernel
theorem dX2_init_21 : decode cX2_init 21 = .ok (.bipush 8, 2) := by decide +kernel
theorem dX2_init_23 : decode cX2_init 23 = .ok (.newarray .boolean, 2) := by decide +kernel
theorem dX2_init_25 : decode cX2_init 25 = .ok (.putfield 18, 3) := by decide +kernel
theorem dX2_init_28 : decode cX2_init 28 = .ok (.aload_n 0, 1) := by decide +kernel
theorem dX2_init_29 : decode cX2_init 29 = .ok (.iconst 0, 1) := by decide +kernel
theorem dX2_init_30 : decode cX2_init 30 = .ok (.putfield 22, 3) := by decide +kernel
theorem dX2_init_33 : decode cX2_init 33 = .ok (.aload_n 0, 1) := by decide +kernel
theorem dX2_init_34 : decode cX2_init 34 = .ok (.iconst 0, 1) := by decide +kernel
theorem dX2_init_35 : decode cX2_init 35 = .ok (.putfield 26, 3) := by decide +kernel
theorem dX2_init_38 : decode cX2_init 38 = .ok (.return_, 1) := by decide +kernel
theorem dX2_number_0 : decode cX2_number 0 = .ok (.aload_n 0, 1) := by decide +kernel
theorem dX2_number_1 : decode cX2_number 1 = .ok (.getfield 22, 3) := by decide +kernel
theorem dX2_number_4 : decode cX2_number 4 = .ok (.ireturn, 1) := by decide +kernel
theorem dX2_isPaid_0 : decode cX2_isPaid 0 = .ok (.iload_n 1, 1) := by decide +kernel
theorem dX2_isPaid_1 : decode cX2_isPaid 1 = .ok (.ifCond .lt 24, 3) := by decide +kernel
theorem dX2_isPaid_4 : decode cX2_isPaid 4 = .ok (.iload_n 1, 1) := by decide +kernel
theorem dX2_isPaid_5 : decode cX2_isPaid 5 = .ok (.aload_n 0, 1) := by decide +kernel
theorem dX2_isPaid_6 : decode cX2_isPaid 6 = .ok (.getfield 22, 3) := by decide +kernel
theorem dX2_isPaid_9 : decode cX2_isPaid 9 = .ok (.if_icmp .ge 16, 3) := by decide +kernel
theorem dX2_isPaid_12 : decode cX2_isPaid 12 = .ok (.aload_n 0, 1) := by decide +kernel
theorem dX2_isPaid_13 : decode cX2_isPaid 13 = .ok (.getfield 18, 3) := by decide +kernel
theorem dX2_isPaid_16 : decode cX2_isPaid 16 = .ok (.iload_n 1, 1) := by decide +kernel
theorem dX2_isPaid_17 : decode cX2_isPaid 17 = .ok (.baload, 1) := by decide +kernel
theorem dX2_isPaid_18 : decode cX2_isPaid 18 = .ok (.ifCond .eq 7, 3) := by decide +kernel
theorem dX2_isPaid_21 : decode cX2_isPaid 21 = .ok (.iconst 1, 1) := by decide +kernel
theorem dX2_isPaid_22 : decode cX2_isPaid 22 = .ok (.goto 4, 3) := by decide +kernel
theorem dX2_isPaid_25 : decode cX2_isPaid 25 = .ok (.iconst 0, 1) := by decide +kernel
theorem dX2_isPaid_26 : decode cX2_isPaid 26 = .ok (.ireturn, 1) := by decide +kernel
theorem dX2_paidInAll_0 : decode cX2_paidInAll 0 = .ok (.aload_n 0, 1) := by decide +kernel
theorem dX2_paidInAll_1 : decode cX2_paidInAll 1 = .ok (.getfield 26, 3) := by decide +kernel
theorem dX2_paidInAll_4 : decode cX2_paidInAll 4 = .ok (.ireturn, 1) := by decide +kernel
theorem dX2_add_0 : decode cX2_add 0 = .ok (.aload_n 0, 1) := by decide +kernel
theorem dX2_add_1 : decode cX2_add 1 = .ok (.getfield 22, 3) := by decide +kernel
theorem dX2_add_4 : decode cX2_add 4 = .ok (.bipush 8, 2) := by decide +kernel
theorem dX2_add_6 : decode cX2_add 6 = .ok (.if_icmp .lt 5, 3) := by decide +kernel
theorem dX2_add_9 : decode cX2_add 9 = .ok (.iconst (-1), 1) := by decide +kernel
theorem dX2_add_10 : decode cX2_add 10 = .ok (.ireturn, 1) := by decide +kernel
theorem dX2_add_11 : decode cX2_add 11 = .ok (.aload_n 0, 1) := by decide +kernel
theorem dX2_add_12 : decode cX2_add 12 = .ok (.getfield 22, 3) := by decide +kernel
theorem dX2_add_15 : decode cX2_add 15 = .ok (.istore 5, 2) := by decide +kernel
theorem dX2_add_17 : decode cX2_add 17 = .ok (.aload_n 0, 1) := by decide +kernel
theorem dX2_add_18 : decode cX2_add 18 = .ok (.dup, 1) := by decide +kernel
theorem dX2_add_19 : decode cX2_add 19 = .ok (.getfield 22, 3) := by decide +kernel
theorem dX2_add_22 : decode cX2_add 22 = .ok (.iconst 1, 1) := by decide +kernel
theorem dX2_add_23 : decode cX2_add 23 = .ok (.iadd, 1) := by decide +kernel
theorem dX2_add_24 : decode cX2_add 24 = .ok (.putfield 22, 3) := by decide +kernel
theorem dX2_add_27 : decode cX2_add 27 = .ok (.iload 5, 2) := by decide +kernel
theorem dX2_add_29 : decode cX2_add 29 = .ok (.iconst 4, 1) := by decide +kernel
theorem dX2_add_30 : decode cX2_add 30 = .ok (.imul, 1) := by decide +kernel
theorem dX2_add_31 : decode cX2_add 31 = .ok (.istore 6, 2) := by decide +kernel
theorem dX2_add_33 : decode cX2_add 33 = .ok (.aload_n 0, 1) := by decide +kernel
theorem dX2_add_34 : decode cX2_add 34 = .ok (.getfield 9, 3) := by decide +kernel
theorem dX2_add_37 : decode cX2_add 37 = .ok (.iload 6, 2) := by decide +kernel
theorem dX2_add_39 : decode cX2_add 39 = .ok (.iload_n 1, 1) := by decide +kernel
theorem dX2_add_40 : decode cX2_add 40 = .ok (.iastore, 1) := by decide +kernel
theorem dX2_add_41 : decode cX2_add 41 = .ok (.aload_n 0, 1) := by decide +kernel
theorem dX2_add_42 : decode cX2_add 42 = .ok (.getfield 9, 3) := by decide +kernel
theorem dX2_add_45 : decode cX2_add 45 = .ok (.iload 6, 2) := by decide +kernel
theorem dX2_add_47 : decode cX2_add 47 = .ok (.iconst 1, 1) := by decide +kernel
theorem dX2_add_48 : decode cX2_add 48 = .ok (.iadd, 1) := by decide +kernel
theorem dX2_add_49 : decode cX2_add 49 = .ok (.iload_n 2, 1) := by decide +kernel
theorem dX2_add_50 : decode cX2_add 50 = .ok (.iastore, 1) := by decide +kernel
theorem dX2_add_51 : decode cX2_add 51 = .ok (.aload_n 0, 1) := by decide +kernel
theorem dX2_add_52 : decode cX2_add 52 = .ok (.getfield 9, 3) := by decide +kernel
theorem dX2_add_55 : decode cX2_add 55 = .ok (.iload 6, 2) := by decide +kernel
theorem dX2_add_57 : decode cX2_add 57 = .ok (.iconst 2, 1) := by decide +kernel
theorem dX2_add_58 : decode cX2_add 58 = .ok (.iadd, 1) := by decide +kernel
theorem dX2_add_59 : decode cX2_add 59 = .ok (.iload_n 3, 1) := by decide +kernel
theorem dX2_add_60 : decode cX2_add 60 = .ok (.iastore, 1) := by decide +kernel
theorem dX2_add_61 : decode cX2_add 61 = .ok (.aload_n 0, 1) := by decide +kernel
theorem dX2_add_62 : decode cX2_add 62 = .ok (.getfield 9, 3) := by decide +kernel
theorem dX2_add_65 : decode cX2_add 65 = .ok (.iload 6, 2) := by decide +kernel
theorem dX2_add_67 : decode cX2_add 67 = .ok (.iconst 3, 1) := by decide +kernel
theorem dX2_add_68 : decode cX2_add 68 = .ok (.iadd, 1) := by decide +kernel
theorem dX2_add_69 : decode cX2_add 69 = .ok (.iload 4, 2) := by decide +kernel
theorem dX2_add_71 : decode cX2_add 71 = .ok (.iastore, 1) := by decide +kernel
theorem dX2_add_72 : decode cX2_add 72 = .ok (.aload_n 0, 1) := by decide +kernel
theorem dX2_add_73 : decode cX2_add 73 = .ok (.getfield 15, 3) := by decide +kernel
theorem dX2_add_76 : decode cX2_add 76 = .ok (.iload 5, 2) := by decide +kernel
theorem dX2_add_78 : decode cX2_add 78 = .ok (.iload_n 3, 1) := by decide +kernel
theorem dX2_add_79 : decode cX2_add 79 = .ok (.iconst (-1), 1) := by decide +kernel
theorem dX2_add_80 : decode cX2_add 80 = .ok (.if_icmp .ne 7, 3) := by decide +kernel
theorem dX2_add_83 : decode cX2_add 83 = .ok (.iconst 2, 1) := by decide +kernel
theorem dX2_add_84 : decode cX2_add 84 = .ok (.goto 14, 3) := by decide +kernel
theorem dX2_add_87 : decode cX2_add 87 = .ok (.iload 4, 2) := by decide +kernel
theorem dX2_add_89 : decode cX2_add 89 = .ok (.iconst (-1), 1) := by decide +kernel
theorem dX2_add_90 : decode cX2_add 90 = .ok (.if_icmp .ne 7, 3) := by decide +kernel
theorem dX2_add_93 : decode cX2_add 93 = .ok (.iconst 3, 1) := by decide +kernel
theorem dX2_add_94 : decode cX2_add 94 = .ok (.goto 4, 3) := by decide +kernel
theorem dX2_add_97 : decode cX2_add 97 = .ok (.iconst 4, 1) := by decide +kernel
theorem dX2_add_98 : decode cX2_add 98 = .ok (.iastore, 1) := by decide +kernel
theorem dX2_add_99 : decode cX2_add 99 = .ok (.iload 5, 2) := by decide +kernel
theorem dX2_add_101 : decode cX2_add 101 = .ok (.ireturn, 1) := by decide +kernel
theorem dX2_payShown_0 : decode cX2_payShown 0 = .ok (.iconst 0, 1) := by decide +kernel
theorem dX2_payShown_1 : decode cX2_payShown 1 = .ok (.istore_n 3, 1) := by decide +kernel
theorem dX2_payShown_2 : decode cX2_payShown 2 = .ok (.iload_n 3, 1) := by decide +kernel
theorem dX2_payShown_3 : decode cX2_payShown 3 = .ok (.aload_n 0, 1) := by decide +kernel
theorem dX2_payShown_4 : decode cX2_payShown 4 = .ok (.getfield 22, 3) := by decide +kernel
theorem dX2_payShown_7 : decode cX2_payShown 7 = .ok (.if_icmp .ge 53, 3) := by decide +kernel
theorem dX2_payShown_10 : decode cX2_payShown 10 = .ok (.aload_n 0, 1) := by decide +kernel
theorem dX2_payShown_11 : decode cX2_payShown 11 = .ok (.getfield 18, 3) := by decide +kernel
theorem dX2_payShown_14 : decode cX2_payShown 14 = .ok (.iload_n 3, 1) := by decide +kernel
theorem dX2_payShown_15 : decode cX2_payShown 15 = .ok (.baload, 1) := by decide +kernel
theorem dX2_payShown_16 : decode cX2_payShown 16 = .ok (.ifCond .ne 38, 3) := by decide +kernel
theorem dX2_payShown_19 : decode cX2_payShown 19 = .ok (.aload_n 0, 1) := by decide +kernel
theorem dX2_payShown_20 : decode cX2_payShown 20 = .ok (.iload_n 3, 1) := by decide +kernel
theorem dX2_payShown_21 : decode cX2_payShown 21 = .ok (.aload_n 1, 1) := by decide +kernel
theorem dX2_payShown_22 : decode cX2_payShown 22 = .ok (.iload_n 2, 1) := by decide +kernel
theorem dX2_payShown_23 : decode cX2_payShown 23 = .ok (.invokevirtual 29, 3) := by decide +kernel
theorem dX2_payShown_26 : decode cX2_payShown 26 = .ok (.ifCond .eq 28, 3) := by decide +kernel
theorem dX2_payShown_29 : decode cX2_payShown 29 = .ok (.aload_n 0, 1) := by decide +kernel
theorem dX2_payShown_30 : decode cX2_payShown 30 = .ok (.getfield 18, 3) := by decide +kernel
theorem dX2_payShown_33 : decode cX2_payShown 33 = .ok (.iload_n 3, 1) := by decide +kernel
theorem dX2_payShown_34 : decode cX2_payShown 34 = .ok (.iconst 1, 1) := by decide +kernel
theorem dX2_payShown_35 : decode cX2_payShown 35 = .ok (.bastore, 1) := by decide +kernel
theorem dX2_payShown_36 : decode cX2_payShown 36 = .ok (.aload_n 0, 1) := by decide +kernel
theorem dX2_payShown_37 : decode cX2_payShown 37 = .ok (.dup, 1) := by decide +kernel
theorem dX2_payShown_38 : decode cX2_payShown 38 = .ok (.getfield 26, 3) := by decide +kernel
theorem dX2_payShown_41 : decode cX2_payShown 41 = .ok (.bipush 100, 2) := by decide +kernel
theorem dX2_payShown_43 : decode cX2_payShown 43 = .ok (.aload_n 0, 1) := by decide +kernel
theorem dX2_payShown_44 : decode cX2_payShown 44 = .ok (.getfield 15, 3) := by decide +kernel
theorem dX2_payShown_47 : decode cX2_payShown 47 = .ok (.iload_n 3, 1) := by decide +kernel
theorem dX2_payShown_48 : decode cX2_payShown 48 = .ok (.iaload, 1) := by decide +kernel
theorem dX2_payShown_49 : decode cX2_payShown 49 = .ok (.imul, 1) := by decide +kernel
theorem dX2_payShown_50 : decode cX2_payShown 50 = .ok (.iadd, 1) := by decide +kernel
theorem dX2_payShown_51 : decode cX2_payShown 51 = .ok (.putfield 26, 3) := by decide +kernel
theorem dX2_payShown_54 : decode cX2_payShown 54 = .ok (.iinc 3 1, 3) := by decide +kernel
theorem dX2_payShown_57 : decode cX2_payShown 57 = .ok (.goto (-55), 3) := by decide +kernel
theorem dX2_payShown_60 : decode cX2_payShown 60 = .ok (.return_, 1) := by decide +kernel
theorem dX2_isShown_0 : decode cX2_isShown 0 = .ok (.iload_n 3, 1) := by decide +kernel
theorem dX2_isShown_1 : decode cX2_isShown 1 = .ok (.aload_n 0, 1) := by decide +kernel
theorem dX2_isShown_2 : decode cX2_isShown 2 = .ok (.getfield 15, 3) := by decide +kernel
theorem dX2_isShown_5 : decode cX2_isShown 5 = .ok (.iload_n 1, 1) := by decide +kernel
theorem dX2_isShown_6 : decode cX2_isShown 6 = .ok (.iaload, 1) := by decide +kernel
theorem dX2_isShown_7 : decode cX2_isShown 7 = .ok (.isub, 1) := by decide +kernel
theorem dX2_isShown_8 : decode cX2_isShown 8 = .ok (.istore 4, 2) := by decide +kernel
theorem dX2_isShown_10 : decode cX2_isShown 10 = .ok (.iconst 0, 1) := by decide +kernel
theorem dX2_isShown_11 : decode cX2_isShown 11 = .ok (.istore 5, 2) := by decide +kernel
theorem dX2_isShown_13 : decode cX2_isShown 13 = .ok (.iload 5, 2) := by decide +kernel
theorem dX2_isShown_15 : decode cX2_isShown 15 = .ok (.iload 4, 2) := by decide +kernel
theorem dX2_isShown_17 : decode cX2_isShown 17 = .ok (.if_icmp .gt 22, 3) := by decide +kernel
theorem dX2_isShown_20 : decode cX2_isShown 20 = .ok (.aload_n 0, 1) := by decide +kernel
theorem dX2_isShown_21 : decode cX2_isShown 21 = .ok (.iload 5, 2) := by decide +kernel
theorem dX2_isShown_23 : decode cX2_isShown 23 = .ok (.iload_n 1, 1) := by decide +kernel
theorem dX2_isShown_24 : decode cX2_isShown 24 = .ok (.aload_n 2, 1) := by decide +kernel
theorem dX2_isShown_25 : decode cX2_isShown 25 = .ok (.invokevirtual 33, 3) := by decide +kernel
theorem dX2_isShown_28 : decode cX2_isShown 28 = .ok (.ifCond .eq 5, 3) := by decide +kernel
theorem dX2_isShown_31 : decode cX2_isShown 31 = .ok (.iconst 1, 1) := by decide +kernel
theorem dX2_isShown_32 : decode cX2_isShown 32 = .ok (.ireturn, 1) := by decide +kernel
theorem dX2_isShown_33 : decode cX2_isShown 33 = .ok (.iinc 5 1, 3) := by decide +kernel
theorem dX2_isShown_36 : decode cX2_isShown 36 = .ok (.goto (-23), 3) := by decide +kernel
theorem dX2_isShown_39 : decode cX2_isShown 39 = .ok (.iconst 0, 1) := by decide +kernel
theorem dX2_isShown_40 : decode cX2_isShown 40 = .ok (.ireturn, 1) := by decide +kernel
theorem dX2_isShownFrom_0 : decode cX2_isShownFrom 0 = .ok (.iconst 0, 1) := by decide +kernel
theorem dX2_isShownFrom_1 : decode cX2_isShownFrom 1 = .ok (.istore 4, 2) := by decide +kernel
theorem dX2_isShownFrom_3 : decode cX2_isShownFrom 3 = .ok (.iload 4, 2) := by decide +kernel
theorem dX2_isShownFrom_5 : decode cX2_isShownFrom 5 = .ok (.aload_n 0, 1) := by decide +kernel
theorem dX2_isShownFrom_6 : decode cX2_isShownFrom 6 = .ok (.getfield 15, 3) := by decide +kernel
theorem dX2_isShownFrom_9 : decode cX2_isShownFrom 9 = .ok (.iload_n 2, 1) := by decide +kernel
theorem dX2_isShownFrom_10 : decode cX2_isShownFrom 10 = .ok (.iaload, 1) := by decide +kernel
theorem dX2_isShownFrom_11 : decode cX2_isShownFrom 11 = .ok (.if_icmp .ge 31, 3) := by decide +kernel
theorem dX2_isShownFrom_14 : decode cX2_isShownFrom 14 = .ok (.aload_n 3, 1) := by decide +kernel
theorem dX2_isShownFrom_15 : decode cX2_isShownFrom 15 = .ok (.iload_n 1, 1) := by decide +kernel
theorem dX2_isShownFrom_16 : decode cX2_isShownFrom 16 = .ok (.iload 4, 2) := by decide +kernel
theorem dX2_isShownFrom_18 : decode cX2_isShownFrom 18 = .ok (.iadd, 1) := by decide +kernel
theorem dX2_isShownFrom_19 : decode cX2_isShownFrom 19 = .ok (.iaload, 1) := by decide +kernel
theorem dX2_isShownFrom_20 : decode cX2_isShownFrom 20 = .ok (.aload_n 0, 1) := by decide +kernel
theorem dX2_isShownFrom_21 : decode cX2_isShownFrom 21 = .ok (.getfield 9, 3) := by decide +kernel
theorem dX2_isShownFrom_24 : decode cX2_isShownFrom 24 = .ok (.iload_n 2, 1) := by decide +kernel
theorem dX2_isShownFrom_25 : decode cX2_isShownFrom 25 = .ok (.iconst 4, 1) := by decide +kernel
theorem dX2_isShownFrom_26 : decode cX2_isShownFrom 26 = .ok (.imul, 1) := by decide +kernel
theorem dX2_isShownFrom_27 : decode cX2_isShownFrom 27 = .ok (.iload 4, 2) := by decide +kernel
theorem dX2_isShownFrom_29 : decode cX2_isShownFrom 29 = .ok (.iadd, 1) := by decide +kernel
theorem dX2_isShownFrom_30 : decode cX2_isShownFrom 30 = .ok (.iaload, 1) := by decide +kernel
theorem dX2_isShownFrom_31 : decode cX2_isShownFrom 31 = .ok (.if_icmp .eq 5, 3) := by decide +kernel
theorem dX2_isShownFrom_34 : decode cX2_isShownFrom 34 = .ok (.iconst 0, 1) := by decide +kernel
theorem dX2_isShownFrom_35 : decode cX2_isShownFrom 35 = .ok (.ireturn, 1) := by decide +kernel
theorem dX2_isShownFrom_36 : decode cX2_isShownFrom 36 = .ok (.iinc 4 1, 3) := by decide +kernel
theorem dX2_isShownFrom_39 : decode cX2_isShownFrom 39 = .ok (.goto (-36), 3) := by decide +kernel
theorem dX2_isShownFrom_42 : decode cX2_isShownFrom 42 = .ok (.iconst 1, 1) := by decide +kernel
theorem dX2_isShownFrom_43 : decode cX2_isShownFrom 43 = .ok (.ireturn, 1) := by decide +kernel
theorem dX3_init_0 : decode cX3_init 0 = .ok (.aload_n 0, 1) := by decide +kernel
theorem dX3_init_1 : decode cX3_init 1 = .ok (.invokespecial 1, 3) := by decide +kernel
theorem dX3_init_4 : decode cX3_init 4 = .ok (.aload_n 0, 1) := by decide +kernel
theorem dX3_init_5 : decode cX3_init 5 = .ok (.new 7, 3) := by decide +kernel
theorem dX3_init_8 : decode cX3_init 8 = .ok (.dup, 1) := by decide +kernel
theorem dX3_init_9 : decode cX3_init 9 = .ok (.invokespecial 9, 3) := by decide +kernel
theorem dX3_init_12 : decode cX3_init 12 = .ok (.putfield 10, 3) := by decide +kernel
theorem dX3_init_15 : decode cX3_init 15 = .ok (.aload_n 0, 1) := by decide +kernel
theorem dX3_init_16 : decode cX3_init 16 = .ok (.new 7, 3) := by decide +kernel
theorem dX3_init_19 : decode cX3_init 19 = .ok (.dup, 1) := by decide +kernel
theorem dX3_init_20 : decode cX3_init 20 = .ok (.invokespecial 9, 3) := by decide +kernel
theorem dX3_init_23 : decode cX3_init 23 = .ok (.putfield 16, 3) := by decide +kernel
theorem dX3_init_26 : decode cX3_init 26 = .ok (.aload_n 0, 1) := by decide +kernel
theorem dX3_init_27 : decode cX3_init 27 = .ok (.new 19, 3) := by decide +kernel
theorem dX3_init_30 : decode cX3_init 30 = .ok (.dup, 1) := by decide +kernel
theorem dX3_init_31 : decode cX3_init 31 = .ok (.invokespecial 21, 3) := by decide +kernel
theorem dX3_init_34 : decode cX3_init 34 = .ok (.putfield 22, 3) := by decide +kernel
theorem dX3_init_37 : decode cX3_init 37 = .ok (.aload_n 0, 1) := by decide +kernel
theorem dX3_init_38 : decode cX3_init 38 = .ok (.new 26, 3) := by decide +kernel
theorem dX3_init_41 : decode cX3_init 41 = .ok (.dup, 1) := by decide +kernel
theorem dX3_init_42 : decode cX3_init 42 = .ok (.invokespecial 28, 3) := by decide +kernel
theorem dX3_init_45 : decode cX3_init 45 = .ok (.putfield 29, 3) := by decide +kernel
theorem dX3_init_48 : decode cX3_init 48 = .ok (.aload_n 0, 1) := by decide +kernel
theorem dX3_init_49 : decode cX3_init 49 = .ok (.bipush 30, 2) := by decide +kernel
theorem dX3_init_51 : decode cX3_init 51 = .ok (.newarray .int, 2) := by decide +kernel
theorem dX3_init_53 : decode cX3_init 53 = .ok (.putfield 33, 3) := by decide +kernel
theorem dX3_init_56 : decode cX3_init 56 = .ok (.aload_n 0, 1) := by decide +kernel
theorem dX3_init_57 : decode cX3_init 57 = .ok (.bipush 6, 2) := by decide +kernel
theorem dX3_init_59 : decode cX3_init 59 = .ok (.newarray .int, 2) := by decide +kernel
theorem dX3_init_61 : decode cX3_init 61 = .ok (.putfield 37, 3) := by decide +kernel
theorem dX3_init_64 : decode cX3_init 64 = .ok (.aload_n 0, 1) := by decide +kernel
theorem dX3_init_65 : decode cX3_init 65 = .ok (.iconst 0, 1) := by decide +kernel
theorem dX3_init_66 : decode cX3_init 66 = .ok (.putfield 40, 3) := by decide +kernel
theorem dX3_init_69 : decode cX3_init 69 = .ok (.aload_n 0, 1) := by decide +kernel
theorem dX3_init_70 : decode cX3_init 70 = .ok (.iconst (-1), 1) := by decide +kernel
theorem dX3_init_71 : decode cX3_init 71 = .ok (.putfield 44, 3) := by decide +kernel
theorem dX3_init_74 : decode cX3_init 74 = .ok (.aload_n 0, 1) := by decide +kernel
theorem dX3_init_75 : decode cX3_init 75 = .ok (.iconst 0, 1) := by decide +kernel
theorem dX3_init_76 : decode cX3_init 76 = .ok (.putfield 47, 3) := by decide +kernel
theorem dX3_init_79 : decode cX3_init 79 = .ok (.aload_n 0, 1) := by decide +kernel
theorem dX3_init_80 : decode cX3_init 80 = .ok (.iconst 0, 1) := by decide +kernel
theorem dX3_init_81 : decode cX3_init 81 = .ok (.putfield 50, 3) := by decide +kernel
theorem dX3_init_84 : decode cX3_init 84 = .ok (.aload_n 0, 1) := by decide +kernel
theorem dX3_init_85 : decode cX3_init 85 = .ok (.iconst 0, 1) := by decide +kernel
theorem dX3_init_86 : decode cX3_init 86 = .ok (.putfield 53, 3) := by decide +kernel
theorem dX3_init_89 : decode cX3_init 89 = .ok (.aload_n 0, 1) := by decide +kernel
theorem dX3_init_90 : decode cX3_init 90 = .ok (.iconst 0, 1) := by decide +kernel
theorem dX3_init_91 : decode cX3_init 91 = .ok (.putfield 57, 3) := by decide +kernel
theorem dX3_init_94 : decode cX3_init 94 = .ok (.return_, 1) := by decide +kernel
theorem dX3_arrive_0 : decode cX3_arrive 0 = .ok (.iload_n 1, 1) := by decide +kernel
theorem dX3_arrive_1 : decode cX3_arrive 1 = .ok (.iconst 1, 1) := by decide +kernel
theorem dX3_arrive_2 : decode cX3_arrive 2 = .ok (.if_icmp .lt 9, 3) := by decide +kernel
theorem dX3_arrive_5 : decode cX3_arrive 5 = .ok (.iload_n 1, 1) := by decide +kernel
theorem dX3_arrive_6 : decode cX3_arrive 6 = .ok (.bipush 100, 2) := by decide +kernel
theorem dX3_arrive_8 : decode cX3_arrive 8 = .ok (.if_icmp .le 13, 3) := by decide +kernel
theorem dX3_arrive_11 : decode cX3_arrive 11 = .ok (.new 60, 3) := by decide +kernel
theorem dX3_arrive_14 : decode cX3_arrive 14 = .ok (.dup, 1) := by decide +kernel
theorem dX3_arrive_15 : decode cX3_arrive 15 = .ok (.ldc 62, 2) := by decide +kernel
theorem dX3_arrive_17 : decode cX3_arrive 17 = .ok (.invokespecial 64, 3) := by decide +kernel
theorem dX3_arrive_20 : decode cX3_arrive 20 = .ok (.athrow, 1) := by decide +kernel
theorem dX3_arrive_21 : decode cX3_arrive 21 = .ok (.iload_n 2, 1) := by decide +kernel
theorem dX3_arrive_22 : decode cX3_arrive 22 = .ok (.invokestatic 67, 3) := by decide +kernel
theorem dX3_arrive_25 : decode cX3_arrive 25 = .ok (.iload_n 3, 1) := by decide +kernel
theorem dX3_arrive_26 : decode cX3_arrive 26 = .ok (.invokestatic 71, 3) := by decide +kernel
theorem dX3_arrive_29 : decode cX3_arrive 29 = .ok (.aload_n 0, 1) := by decide +kernel
theorem dX3_arrive_30 : decode cX3_arrive 30 = .ok (.getfield 40, 3) := by decide +kernel
theorem dX3_arrive_33 : decode cX3_arrive 33 = .ok (.bipush 30, 2) := by decide +kernel
theorem dX3_arrive_35 : decode cX3_arrive 35 = .ok (.if_icmp .lt 13, 3) := by decide +kernel
theorem dX3_arrive_38 : decode cX3_arrive 38 = .ok (.new 74, 3) := by decide +kernel
theorem dX3_arrive_41 : decode cX3_arrive 41 = .ok (.dup, 1) := by decide +kernel
theorem dX3_arrive_42 : decode cX3_arrive 42 = .ok (.ldc 76, 2) := by decide +kernel
theorem dX3_arrive_44 : decode cX3_arrive 44 = .ok (.invokespecial 78, 3) := by decide +kernel
theorem dX3_arrive_47 : decode cX3_arrive 47 = .ok (.athrow, 1) := by decide +kernel
theorem dX3_arrive_48 : decode cX3_arrive 48 = .ok (.aload_n 0, 1) := by decide +kernel
theorem dX3_arrive_49 : decode cX3_arrive 49 = .ok (.iload_n 3, 1) := by decide +kernel
theorem dX3_arrive_50 : decode cX3_arrive 50 = .ok (.iload_n 1, 1) := by decide +kernel
theorem dX3_arrive_51 : decode cX3_arrive 51 = .ok (.invokevirtual 79, 3) := by decide +kernel
theorem dX3_arrive_54 : decode cX3_arrive 54 = .ok (.aload_n 0, 1) := by decide +kernel
theorem dX3_arrive_55 : decode cX3_arrive 55 = .ok (.getfield 40, 3) := by decide +kernel
theorem dX3_arrive_58 : decode cX3_arrive 58 = .ok (.istore 4, 2) := by decide +kernel
theorem dX3_arrive_60 : decode cX3_arrive 60 = .ok (.aload_n 0, 1) := by decide +kernel
theorem dX3_arrive_61 : decode cX3_arrive 61 = .ok (.dup, 1) := by decide +kernel
theorem dX3_arrive_62 : decode cX3_arrive 62 = .ok (.getfield 40, 3) := by decide +kernel
theorem dX3_arrive_65 : decode cX3_arrive 65 = .ok (.iconst 1, 1) := by decide +kernel
theorem dX3_arrive_66 : decode cX3_arrive 66 = .ok (.iadd, 1) := by decide +kernel
theorem dX3_arrive_67 : decode cX3_arrive 67 = .ok (.putfield 40, 3) := by decide +kernel
theorem dX3_arrive_70 : decode cX3_arrive 70 = .ok (.aload_n 0, 1) := by decide +kernel
theorem dX3_arrive_71 : decode cX3_arrive 71 = .ok (.getfield 33, 3) := by decide +kernel
theorem dX3_arrive_74 : decode cX3_arrive 74 = .ok (.iload 4, 2) := by decide +kernel
theorem dX3_arrive_76 : decode cX3_arrive 76 = .ok (.iload_n 2, 1) := by decide +kernel
theorem dX3_arrive_77 : decode cX3_arrive 77 = .ok (.iastore, 1) := by decide +kernel
theorem dX3_arrive_78 : decode cX3_arrive 78 = .ok (.aload_n 0, 1) := by decide +kernel
theorem dX3_arrive_79 : decode cX3_arrive 79 = .ok (.getfield 10, 3) := by decide +kernel
theorem dX3_arrive_82 : decode cX3_arrive 82 = .ok (.iload 4, 2) := by decide +kernel
theorem dX3_arrive_84 : decode cX3_arrive 84 = .ok (.iload_n 1, 1) := by decide +kernel
theorem dX3_arrive_85 : decode cX3_arrive 85 = .ok (.invokevirtual 83, 3) := by decide +kernel
theorem dX3_arrive_88 : decode cX3_arrive 88 = .ok (.aload_n 0, 1) := by decide +kernel
theorem dX3_arrive_89 : decode cX3_arrive 89 = .ok (.getfield 10, 3) := by decide +kernel
theorem dX3_arrive_92 : decode cX3_arrive 92 = .ok (.iload_n 3, 1) := by decide +kernel
theorem dX3_arrive_93 : decode cX3_arrive 93 = .ok (.iload 4, 2) := by decide +kernel
theorem dX3_arrive_95 : decode cX3_arrive 95 = .ok (.invokevirtual 86, 3) := by decide +kernel
theorem dX3_arrive_98 : decode cX3_arrive 98 = .ok (.aload_n 0, 1) := by decide +kernel
theorem dX3_arrive_99 : decode cX3_arrive 99 = .ok (.invokevirtual 89, 3) := by decide +kernel
theorem dX3_arrive_102 : decode cX3_arrive 102 = .ok (.iload 4, 2) := by decide +kernel
theorem dX3_arrive_104 : decode cX3_arrive 104 = .ok (.ireturn, 1) := by decide +kernel
theorem dX3_lift_0 : decode cX3_lift 0 = .ok (.iload_n 1, 1) := by decide +kernel
theorem dX3_lift_1 : decode cX3_lift 1 = .ok (.invokestatic 71, 3) := by decide +kernel
theorem dX3_lift_4 : decode cX3_lift 4 = .ok (.aload_n 0, 1) := by decide +kernel
theorem dX3_lift_5 : decode cX3_lift 5 = .ok (.invokevirtual 92, 3) := by decide +kernel
theorem dX3_lift_8 : decode cX3_lift 8 = .ok (.aload_n 0, 1) := by decide +kernel
theorem dX3_lift_9 : decode cX3_lift 9 = .ok (.getfield 10, 3) := by decide +kernel
theorem dX3_lift_12 : decode cX3_lift 12 = .ok (.iload_n 1, 1) := by decide +kernel
theorem dX3_lift_13 : decode cX3_lift 13 = .ok (.invokevirtual 95, 3) := by decide +kernel
theorem dX3_lift_16 : decode cX3_lift 16 = .ok (.ifCond .ne 13, 3) := by decide +kernel
theorem dX3_lift_19 : decode cX3_lift 19 = .ok (.new 74, 3) := by decide +kernel
theorem dX3_lift_22 : decode cX3_lift 22 = .ok (.dup, 1) := by decide +kernel
theorem dX3_lift_23 : decode cX3_lift 23 = .ok (.ldc 99, 2) := by decide +kernel
theorem dX3_lift_25 : decode cX3_lift 25 = .ok (.invokespecial 78, 3) := by decide +kernel
theorem dX3_lift_28 : decode cX3_lift 28 = .ok (.athrow, 1) := by decide +kernel
theorem dX3_lift_29 : decode cX3_lift 29 = .ok (.aload_n 0, 1) := by decide +kernel
theorem dX3_lift_30 : decode cX3_lift 30 = .ok (.aload_n 0, 1) := by decide +kernel
theorem dX3_lift_31 : decode cX3_lift 31 = .ok (.getfield 10, 3) := by decide +kernel
theorem dX3_lift_34 : decode cX3_lift 34 = .ok (.iload_n 1, 1) := by decide +kernel
theorem dX3_lift_35 : decode cX3_lift 35 = .ok (.invokevirtual 101, 3) := by decide +kernel
theorem dX3_lift_38 : decode cX3_lift 38 = .ok (.putfield 44, 3) := by decide +kernel
theorem dX3_lift_41 : decode cX3_lift 41 = .ok (.aload_n 0, 1) := by decide +kernel
theorem dX3_lift_42 : decode cX3_lift 42 = .ok (.dup, 1) := by decide +kernel
theorem dX3_lift_43 : decode cX3_lift 43 = .ok (.getfield 47, 3) := by decide +kernel
theorem dX3_lift_46 : decode cX3_lift 46 = .ok (.iconst 1, 1) := by decide +kernel
theorem dX3_lift_47 : decode cX3_lift 47 = .ok (.iadd, 1) := by decide +kernel
theorem dX3_lift_48 : decode cX3_lift 48 = .ok (.putfield 47, 3) := by decide +kernel
theorem dX3_lift_51 : decode cX3_lift 51 = .ok (.aload_n 0, 1) := by decide +kernel
theorem dX3_lift_52 : decode cX3_lift 52 = .ok (.invokevirtual 89, 3) := by decide +kernel
theorem dX3_lift_55 : decode cX3_lift 55 = .ok (.aload_n 0, 1) := by decide +kernel
theorem dX3_lift_56 : decode cX3_lift 56 = .ok (.getfield 44, 3) := by decide +kernel
theorem dX3_lift_59 : decode cX3_lift 59 = .ok (.ireturn, 1) := by decide +kernel
theorem dX3_drop_0 : decode cX3_drop 0 = .ok (.iload_n 1, 1) := by decide +kernel
theorem dX3_drop_1 : decode cX3_drop 1 = .ok (.invokestatic 71, 3) := by decide +kernel
theorem dX3_drop_4 : decode cX3_drop 4 = .ok (.aload_n 0, 1) := by decide +kernel
theorem dX3_drop_5 : decode cX3_drop 5 = .ok (.invokevirtual 104, 3) := by decide +kernel
theorem dX3_drop_8 : decode cX3_drop 8 = .ok (.aload_n 0, 1) := by decide +kernel
theorem dX3_drop_9 : decode cX3_drop 9 = .ok (.iload_n 1, 1) := by decide +kernel
theorem dX3_drop_10 : decode cX3_drop 10 = .ok (.aload_n 0, 1) := by decide +kernel
theorem dX3_drop_11 : decode cX3_drop 11 = .ok (.getfield 10, 3) := by decide +kernel
theorem dX3_drop_14 : decode cX3_drop 14 = .ok (.aload_n 0, 1) := by decide +kernel
theorem dX3_drop_15 : decode cX3_drop 15 = .ok (.getfield 44, 3) := by decide +kernel
theorem dX3_drop_18 : decode cX3_drop 18 = .ok (.invokevirtual 107, 3) := by decide +kernel
theorem dX3_drop_21 : decode cX3_drop 21 = .ok (.invokevirtual 79, 3) := by decide +kernel
theorem dX3_drop_24 : decode cX3_drop 24 = .ok (.aload_n 0, 1) := by decide +kernel
theorem dX3_drop_25 : decode cX3_drop 25 = .ok (.getfield 10, 3) := by decide +kernel
theorem dX3_drop_28 : decode cX3_drop 28 = .ok (.iload_n 1, 1) := by decide +kernel
theorem dX3_drop_29 : decode cX3_drop 29 = .ok (.aload_n 0, 1) := by decide +kernel
theorem dX3_drop_30 : decode cX3_drop 30 = .ok (.getfield 44, 3) := by decide +kernel
theorem dX3_drop_33 : decode cX3_drop 33 = .ok (.invokevirtual 86, 3) := by decide +kernel
theorem dX3_drop_36 : decode cX3_drop 36 = .ok (.aload_n 0, 1) := by decide +kernel
theorem dX3_drop_37 : decode cX3_drop 37 = .ok (.iconst (-1), 1) := by decide +kernel
theorem dX3_drop_38 : decode cX3_drop 38 = .ok (.putfield 44, 3) := by decide +kernel
theorem dX3_drop_41 : decode cX3_drop 41 = .ok (.aload_n 0, 1) := by decide +kernel
theorem dX3_drop_42 : decode cX3_drop 42 = .ok (.invokevirtual 89, 3) := by decide +kernel
theorem dX3_drop_45 : decode cX3_drop 45 = .ok (.aload_n 0, 1) := by decide +kernel
theorem dX3_drop_46 : decode cX3_drop 46 = .ok (.getfield 10, 3) := by decide +kernel
theorem dX3_drop_49 : decode cX3_drop 49 = .ok (.iload_n 1, 1) := by decide +kernel
theorem dX3_drop_50 : decode cX3_drop 50 = .ok (.invokevirtual 95, 3) := by decide +kernel
theorem dX3_drop_53 : decode cX3_drop 53 = .ok (.ireturn, 1) := by decide +kernel
theorem dX3_dig_0 : decode cX3_dig 0 = .ok (.aload_n 0, 1) := by decide +kernel
theorem dX3_dig_1 : decode cX3_dig 1 = .ok (.iload_n 1, 1) := by decide +kernel
theorem dX3_dig_2 : decode cX3_dig 2 = .ok (.invokevirtual 110, 3) := by decide +kernel
theorem dX3_dig_5 : decode cX3_dig 5 = .ok (.aload_n 0, 1) := by decide +kernel
theorem dX3_dig_6 : decode cX3_dig 6 = .ok (.invokevirtual 92, 3) := by decide +kernel
theorem dX3_dig_9 : decode cX3_dig 9 = .ok (.aload_n 0, 1) := by decide +kernel
theorem dX3_dig_10 : decode cX3_dig 10 = .ok (.iload_n 1, 1) := by decide +kernel
theorem dX3_dig_11 : decode cX3_dig 11 = .ok (.invokevirtual 113, 3) := by decide +kernel
theorem dX3_dig_14 : decode cX3_dig 14 = .ok (.aload_n 0, 1) := by decide +kernel
theorem dX3_dig_15 : decode cX3_dig 15 = .ok (.getfield 16, 3) := by decide +kernel
theorem dX3_dig_18 : decode cX3_dig 18 = .ok (.aload_n 0, 1) := by decide +kernel
theorem dX3_dig_19 : decode cX3_dig 19 = .ok (.getfield 10, 3) := by decide +kernel
theorem dX3_dig_22 : decode cX3_dig 22 = .ok (.invokevirtual 116, 3) := by decide +kernel
theorem dX3_dig_25 : decode cX3_dig 25 = .ok (.aload_n 0, 1) := by decide +kernel
theorem dX3_dig_26 : decode cX3_dig 26 = .ok (.getfield 16, 3) := by decide +kernel
theorem dX3_dig_29 : decode cX3_dig 29 = .ok (.iload_n 1, 1) := by decide +kernel
theorem dX3_dig_30 : decode cX3_dig 30 = .ok (.aload_n 0, 1) := by decide +kernel
theorem dX3_dig_31 : decode cX3_dig 31 = .ok (.invokevirtual 120, 3) := by decide +kernel
theorem dX3_dig_34 : decode cX3_dig 34 = .ok (.invokevirtual 124, 3) := by decide +kernel
theorem dX3_dig_37 : decode cX3_dig 37 = .ok (.istore_n 2, 1) := by decide +kernel
theorem dX3_dig_38 : decode cX3_dig 38 = .ok (.iload_n 2, 1) := by decide +kernel
theorem dX3_dig_39 : decode cX3_dig 39 = .ok (.iconst (-1), 1) := by decide +kernel
theorem dX3_dig_40 : decode cX3_dig 40 = .ok (.if_icmp .ne 13, 3) := by decide +kernel
theorem dX3_dig_43 : decode cX3_dig 43 = .ok (.new 74, 3) := by decide +kernel
theorem dX3_dig_46 : decode cX3_dig 46 = .ok (.dup, 1) := by decide +kernel
theorem dX3_dig_47 : decode cX3_dig 47 = .ok (.ldc 128, 2) := by decide +kernel
theorem dX3_dig_49 : decode cX3_dig 49 = .ok (.invokespecial 78, 3) := by decide +kernel
theorem dX3_dig_52 : decode cX3_dig 52 = .ok (.athrow, 1) := by decide +kernel
theorem dX3_dig_53 : decode cX3_dig 53 = .ok (.aload_n 0, 1) := by decide +kernel
theorem dX3_dig_54 : decode cX3_dig 54 = .ok (.getfield 10, 3) := by decide +kernel
theorem dX3_dig_57 : decode cX3_dig 57 = .ok (.aload_n 0, 1) := by decide +kernel
theorem dX3_dig_58 : decode cX3_dig 58 = .ok (.getfield 16, 3) := by decide +kernel
theorem dX3_dig_61 : decode cX3_dig 61 = .ok (.invokevirtual 116, 3) := by decide +kernel
theorem dX3_dig_64 : decode cX3_dig 64 = .ok (.aload_n 0, 1) := by decide +kernel
theorem dX3_dig_65 : decode cX3_dig 65 = .ok (.iload_n 1, 1) := by decide +kernel
theorem dX3_dig_66 : decode cX3_dig 66 = .ok (.putfield 44, 3) := by decide +kernel
theorem dX3_dig_69 : decode cX3_dig 69 = .ok (.aload_n 0, 1) := by decide +kernel
theorem dX3_dig_70 : decode cX3_dig 70 = .ok (.dup, 1) := by decide +kernel
theorem dX3_dig_71 : decode cX3_dig 71 = .ok (.getfield 47, 3) := by decide +kernel
theorem dX3_dig_74 : decode cX3_dig 74 = .ok (.iload_n 2, 1) := by decide +kernel
theorem dX3_dig_75 : decode cX3_dig 75 = .ok (.iadd, 1) := by decide +kernel
theorem dX3_dig_76 : decode cX3_dig 76 = .ok (.putfield 47, 3) := by decide +kernel
theorem dX3_dig_79 : decode cX3_dig 79 = .ok (.aload_n 0, 1) := by decide +kernel
theorem dX3_dig_80 : decode cX3_dig 80 = .ok (.invokevirtual 89, 3) := by decide +kernel
theorem dX3_dig_83 : decode cX3_dig 83 = .ok (.iload_n 2, 1) := by decide +kernel
theorem dX3_dig_84 : decode cX3_dig 84 = .ok (.ireturn, 1) := by decide +kernel
theorem dX3_crane_0 : decode cX3_crane 0 = .ok (.aload_n 0, 1) := by decide +kernel
theorem dX3_crane_1 : decode cX3_crane 1 = .ok (.getfield 44, 3) := by decide +kernel
theorem dX3_crane_4 : decode cX3_crane 4 = .ok (.ireturn, 1) := by decide +kernel
theorem dX3_height_0 : decode cX3_height 0 = .ok (.iload_n 1, 1) := by decide +kernel
theorem dX3_height_1 : decode cX3_height 1 = .ok (.invokestatic 71, 3) := by decide +kernel
theorem dX3_height_4 : decode cX3_height 4 = .ok (.aload_n 0, 1) := by decide +kernel
theorem dX3_height_5 : decode cX3_height 5 = .ok (.getfield 10, 3) := by decide +kernel
theorem dX3_height_8 : decode cX3_height 8 = .ok (.iload_n 1, 1) := by decide +kernel
theorem dX3_height_9 : decode cX3_height 9 = .ok (.invokevirtual 95, 3) := by decide +kernel
theorem dX3_height_12 : decode cX3_height 12 = .ok (.ireturn, 1) := by decide +kernel
theorem dX3_at_0 : decode cX3_at 0 = .ok (.iload_n 1, 1) := by decide +kernel
theorem dX3_at_1 : decode cX3_at 1 = .ok (.invokestatic 71, 3) := by decide +kernel
theorem dX3_at_4 : decode cX3_at 4 = .ok (.iload_n 2, 1) := by decide +kernel
theorem dX3_at_5 : decode cX3_at 5 = .ok (.ifCond .lt 8, 3) := by decide +kernel
theorem dX3_at_8 : decode cX3_at 8 = .ok (.iload_n 2, 1) := by decide +kernel
theorem dX3_at_9 : decode cX3_at 9 = .ok (.iconst 5, 1) := by decide +kernel
theorem dX3_at_10 : decode cX3_at 10 = .ok (.if_icmp .lt 13, 3) := by decide +kernel
theorem dX3_at_13 : decode cX3_at 13 = .ok (.new 60, 3) := by decide +kernel
theorem dX3_at_16 : decode cX3_at 16 = .ok (.dup, 1) := by decide +kernel
theorem dX3_at_17 : decode cX3_at 17 = .ok (.ldc 130, 2) := by decide +kernel
theorem dX3_at_19 : decode cX3_at 19 = .ok (.invokespecial 64, 3) := by decide +kernel
theorem dX3_at_22 : decode cX3_at 22 = .ok (.athrow, 1) := by decide +kernel
theorem dX3_at_23 : decode cX3_at 23 = .ok (.aload_n 0, 1) := by decide +kernel
theorem dX3_at_24 : decode cX3_at 24 = .ok (.getfield 10, 3) := by decide +kernel
theorem dX3_at_27 : decode cX3_at 27 = .ok (.iload_n 1, 1) := by decide +kernel
theorem dX3_at_28 : decode cX3_at 28 = .ok (.iload_n 2, 1) := by decide +kernel
theorem dX3_at_29 : decode cX3_at 29 = .ok (.invokevirtual 132, 3) := by decide +kernel
theorem dX3_at_32 : decode cX3_at 32 = .ok (.ireturn, 1) := by decide +kernel
theorem dX3_stackOf_0 : decode cX3_stackOf 0 = .ok (.aload_n 0, 1) := by decide +kernel
theorem dX3_stackOf_1 : decode cX3_stackOf 1 = .ok (.iload_n 1, 1) := by decide +kernel
theorem dX3_stackOf_2 : decode cX3_stackOf 2 = .ok (.invokevirtual 110, 3) := by decide +kernel
theorem dX3_stackOf_5 : decode cX3_stackOf 5 = .ok (.aload_n 0, 1) := by decide +kernel
theorem dX3_stackOf_6 : decode cX3_stackOf 6 = .ok (.getfield 10, 3) := by decide +kernel
theorem dX3_stackOf_9 : decode cX3_stackOf 9 = .ok (.iload_n 1, 1) := by decide +kernel
theorem dX3_stackOf_10 : decode cX3_stackOf 10 = .ok (.invokevirtual 135, 3) := by decide +kernel
theorem dX3_stackOf_13 : decode cX3_stackOf 13 = .ok (.ireturn, 1) := by decide +kernel
theorem dX3_lifts_0 : decode cX3_lifts 0 = .ok (.aload_n 0, 1) := by decide +kernel
theorem dX3_lifts_1 : decode cX3_lifts 1 = .ok (.getfield 47, 3) := by decide +kernel
theorem dX3_lifts_4 : decode cX3_lifts 4 = .ok (.ireturn, 1) := by decide +kernel
theorem dX3_fewestLifts_0 : decode cX3_fewestLifts 0 = .ok (.aload_n 0, 1) := by decide +kernel
theorem dX3_fewestLifts_1 : decode cX3_fewestLifts 1 = .ok (.iload_n 1, 1) := by decide +kernel
theorem dX3_fewestLifts_2 : decode cX3_fewestLifts 2 = .ok (.invokevirtual 138, 3) := by decide +kernel
theorem dX3_fewestLifts_5 : decode cX3_fewestLifts 5 = .ok (.ifCond .ne 13, 3) := by decide +kernel
theorem dX3_fewestLifts_8 : decode cX3_fewestLifts 8 = .ok (.new 60, 3) := by decide +kernel
theorem dX3_fewestLifts_11 : decode cX3_fewestLifts 11 = .ok (.dup, 1) := by decide +kernel
theorem dX3_fewestLifts_12 : decode cX3_fewestLifts 12 = .ok (.ldc 142, 2) := by decide +kernel
theorem dX3_fewestLifts_14 : decode cX3_fewestLifts 14 = .ok (.invokespecial 64, 3) := by decide +kernel
theorem dX3_fewestLifts_17 : decode cX3_fewestLifts 17 = .ok (.athrow, 1) := by decide +kernel
theorem dX3_fewestLifts_18 : decode cX3_fewestLifts 18 = .ok (.aload_n 0, 1) := by decide +kernel
theorem dX3_fewestLifts_19 : decode cX3_fewestLifts 19 = .ok (.invokevirtual 92, 3) := by decide +kernel
theorem dX3_fewestLifts_22 : decode cX3_fewestLifts 22 = .ok (.iload_n 1, 1) := by decide +kernel
theorem dX3_fewestLifts_23 : decode cX3_fewestLifts 23 = .ok (.invokestatic 144, 3) := by decide +kernel
theorem dX3_fewestLifts_26 : decode cX3_fewestLifts 26 = .ok (.invokestatic 149, 3) := by decide +kernel
theorem dX3_fewestLifts_29 : decode cX3_fewestLifts 29 = .ok (.istore_n 2, 1) := by decide +kernel
theorem dX3_fewestLifts_30 : decode cX3_fewestLifts 30 = .ok (.iconst (-1), 1) := by decide +kernel
theorem dX3_fewestLifts_31 : decode cX3_fewestLifts 31 = .ok (.istore_n 3, 1) := by decide +kernel
theorem dX3_fewestLifts_32 : decode cX3_fewestLifts 32 = .ok (.iconst 0, 1) := by decide +kernel
theorem dX3_fewestLifts_33 : decode cX3_fewestLifts 33 = .ok (.istore 4, 2) := by decide +kernel
theorem dX3_fewestLifts_35 : decode cX3_fewestLifts 35 = .ok (.iload 4, 2) := by decide +kernel
theorem dX3_fewestLifts_37 : decode cX3_fewestLifts 37 = .ok (.iload_n 2, 1) := by decide +kernel
theorem dX3_fewestLifts_38 : decode cX3_fewestLifts 38 = .ok (.if_icmp .ge 38, 3) := by decide +kernel
theorem dX3_fewestLifts_41 : decode cX3_fewestLifts 41 = .ok (.aload_n 0, 1) := by decide +kernel
theorem dX3_fewestLifts_42 : decode cX3_fewestLifts 42 = .ok (.iload_n 1, 1) := by decide +kernel
theorem dX3_fewestLifts_43 : decode cX3_fewestLifts 43 = .ok (.iload 4, 2) := by decide +kernel
theorem dX3_fewestLifts_45 : decode cX3_fewestLifts 45 = .ok (.invokevirtual 152, 3) := by decide +kernel
theorem dX3_fewestLifts_48 : decode cX3_fewestLifts 48 = .ok (.istore 5, 2) := by decide +kernel
theorem dX3_fewestLifts_50 : decode cX3_fewestLifts 50 = .ok (.iload 5, 2) := by decide +kernel
theorem dX3_fewestLifts_52 : decode cX3_fewestLifts 52 = .ok (.iconst (-1), 1) := by decide +kernel
theorem dX3_fewestLifts_53 : decode cX3_fewestLifts 53 = .ok (.if_icmp .eq 17, 3) := by decide +kernel
theorem dX3_fewestLifts_56 : decode cX3_fewestLifts 56 = .ok (.iload_n 3, 1) := by decide +kernel
theorem dX3_fewestLifts_57 : decode cX3_fewestLifts 57 = .ok (.iconst (-1), 1) := by decide +kernel
theorem dX3_fewestLifts_58 : decode cX3_fewestLifts 58 = .ok (.if_icmp .eq 9, 3) := by decide +kernel
theorem dX3_fewestLifts_61 : decode cX3_fewestLifts 61 = .ok (.iload 5, 2) := by decide +kernel
theorem dX3_fewestLifts_63 : decode cX3_fewestLifts 63 = .ok (.iload_n 3, 1) := by decide +kernel
theorem dX3_fewestLifts_64 : decode cX3_fewestLifts 64 = .ok (.if_icmp .ge 6, 3) := by decide +kernel
theorem dX3_fewestLifts_67 : decode cX3_fewestLifts 67 = .ok (.iload 5, 2) := by decide +kernel
theorem dX3_fewestLifts_69 : decode cX3_fewestLifts 69 = .ok (.istore_n 3, 1) := by decide +kernel
theorem dX3_fewestLifts_70 : decode cX3_fewestLifts 70 = .ok (.iinc 4 1, 3) := by decide +kernel
theorem dX3_fewestLifts_73 : decode cX3_fewestLifts 73 = .ok (.goto (-38), 3) := by decide +kernel
theorem dX3_fewestLifts_76 : decode cX3_fewestLifts 76 = .ok (.iload_n 3, 1) := by decide +kernel
theorem dX3_fewestLifts_77 : decode cX3_fewestLifts 77 = .ok (.ireturn, 1) := by decide +kernel
theorem dX3_tell_0 : decode cX3_tell 0 = .ok (.iload_n 1, 1) := by decide +kernel
theorem dX3_tell_1 : decode cX3_tell 1 = .ok (.invokestatic 67, 3) := by decide +kernel
theorem dX3_tell_4 : decode cX3_tell 4 = .ok (.iload_n 2, 1) := by decide +kernel
theorem dX3_tell_5 : decode cX3_tell 5 = .ok (.invokestatic 67, 3) := by decide +kernel
theorem dX3_tell_8 : decode cX3_tell 8 = .ok (.iload_n 3, 1) := by decide +kernel
theorem dX3_tell_9 : decode cX3_tell 9 = .ok (.iconst (-1), 1) := by decide +kernel
theorem dX3_tell_10 : decode cX3_tell 10 = .ok (.if_icmp .eq 7, 3) := by decide +kernel
theorem dX3_tell_13 : decode cX3_tell 13 = .ok (.iload_n 3, 1) := by decide +kernel
theorem dX3_tell_14 : decode cX3_tell 14 = .ok (.invokestatic 67, 3) := by decide +kernel
theorem dX3_tell_17 : decode cX3_tell 17 = .ok (.iload 4, 2) := by decide +kernel
theorem dX3_tell_19 : decode cX3_tell 19 = .ok (.iconst (-1), 1) := by decide +kernel
theorem dX3_tell_20 : decode cX3_tell 20 = .ok (.if_icmp .eq 23, 3) := by decide +kernel
theorem dX3_tell_23 : decode cX3_tell 23 = .ok (.iload 4, 2) := by decide +kernel
theorem dX3_tell_25 : decode cX3_tell 25 = .ok (.invokestatic 67, 3) := by decide +kernel
theorem dX3_tell_28 : decode cX3_tell 28 = .ok (.iload_n 3, 1) := by decide +kernel
theorem dX3_tell_29 : decode cX3_tell 29 = .ok (.iconst (-1), 1) := by decide +kernel
theorem dX3_tell_30 : decode cX3_tell 30 = .ok (.if_icmp .ne 13, 3) := by decide +kernel
theorem dX3_tell_33 : decode cX3_tell 33 = .ok (.new 60, 3) := by decide +kernel
theorem dX3_tell_36 : decode cX3_tell 36 = .ok (.dup, 1) := by decide +kernel
theorem dX3_tell_37 : decode cX3_tell 37 = .ok (.ldc 155, 2) := by decide +kernel
theorem dX3_tell_39 : decode cX3_tell 39 = .ok (.invokespecial 64, 3) := by decide +kernel
theorem dX3_tell_42 : decode cX3_tell 42 = .ok (.athrow, 1) := by decide +kernel
theorem dX3_tell_43 : decode cX3_tell 43 = .ok (.aload_n 0, 1) := by decide +kernel
theorem dX3_tell_44 : decode cX3_tell 44 = .ok (.getfield 22, 3) := by decide +kernel
theorem dX3_tell_47 : decode cX3_tell 47 = .ok (.invokevirtual 157, 3) := by decide +kernel
theorem dX3_tell_50 : decode cX3_tell 50 = .ok (.bipush 8, 2) := by decide +kernel
theorem dX3_tell_52 : decode cX3_tell 52 = .ok (.if_icmp .lt 13, 3) := by decide +kernel
theorem dX3_tell_55 : decode cX3_tell 55 = .ok (.new 74, 3) := by decide +kernel
theorem dX3_tell_58 : decode cX3_tell 58 = .ok (.dup, 1) := by decide +kernel
theorem dX3_tell_59 : decode cX3_tell 59 = .ok (.ldc 160, 2) := by decide +kernel
theorem dX3_tell_61 : decode cX3_tell 61 = .ok (.invokespecial 78, 3) := by decide +kernel
theorem dX3_tell_64 : decode cX3_tell 64 = .ok (.athrow, 1) := by decide +kernel
theorem dX3_tell_65 : decode cX3_tell 65 = .ok (.aload_n 0, 1) := by decide +kernel
theorem dX3_tell_66 : decode cX3_tell 66 = .ok (.getfield 22, 3) := by decide +kernel
theorem dX3_tell_69 : decode cX3_tell 69 = .ok (.iload_n 1, 1) := by decide +kernel
theorem dX3_tell_70 : decode cX3_tell 70 = .ok (.iload_n 2, 1) := by decide +kernel
theorem dX3_tell_71 : decode cX3_tell 71 = .ok (.iload_n 3, 1) := by decide +kernel
theorem dX3_tell_72 : decode cX3_tell 72 = .ok (.iload 4, 2) := by decide +kernel
theorem dX3_tell_74 : decode cX3_tell 74 = .ok (.invokevirtual 162, 3) := by decide +kernel
theorem dX3_tell_77 : decode cX3_tell 77 = .ok (.istore 5, 2) := by decide +kernel
theorem dX3_tell_79 : decode cX3_tell 79 = .ok (.aload_n 0, 1) := by decide +kernel
theorem dX3_tell_80 : decode cX3_tell 80 = .ok (.invokevirtual 89, 3) := by decide +kernel
theorem dX3_tell_83 : decode cX3_tell 83 = .ok (.iload 5, 2) := by decide +kernel
theorem dX3_tell_85 : decode cX3_tell 85 = .ok (.ireturn, 1) := by decide +kernel
theorem dX3_hasPaid_0 : decode cX3_hasPaid 0 = .ok (.iload_n 1, 1) := by decide +kernel
theorem dX3_hasPaid_1 : decode cX3_hasPaid 1 = .ok (.ifCond .lt 14, 3) := by decide +kernel
theorem dX3_hasPaid_4 : decode cX3_hasPaid 4 = .ok (.iload_n 1, 1) := by decide +kernel
theorem dX3_hasPaid_5 : decode cX3_hasPaid 5 = .ok (.aload_n 0, 1) := by decide +kernel
theorem dX3_hasPaid_6 : decode cX3_hasPaid 6 = .ok (.getfield 22, 3) := by decide +kernel
theorem dX3_hasPaid_9 : decode cX3_hasPaid 9 = .ok (.invokevirtual 157, 3) := by decide +kernel
theorem dX3_hasPaid_12 : decode cX3_hasPaid 12 = .ok (.if_icmp .lt 13, 3) := by decide +kernel
theorem dX3_hasPaid_15 : decode cX3_hasPaid 15 = .ok (.new 166, 3) := by decide +kernel
theorem dX3_hasPaid_18 : decode cX3_hasPaid 18 = .ok (.dup, 1) := by decide +kernel
theorem dX3_hasPaid_19 : decode cX3_hasPaid 19 = .ok (.ldc 168, 2) := by decide +kernel
theorem dX3_hasPaid_21 : decode cX3_hasPaid 21 = .ok (.invokespecial 170, 3) := by decide +kernel
theorem dX3_hasPaid_24 : decode cX3_hasPaid 24 = .ok (.athrow, 1) := by decide +kernel
theorem dX3_hasPaid_25 : decode cX3_hasPaid 25 = .ok (.aload_n 0, 1) := by decide +kernel
theorem dX3_hasPaid_26 : decode cX3_hasPaid 26 = .ok (.getfield 22, 3) := by decide +kernel
theorem dX3_hasPaid_29 : decode cX3_hasPaid 29 = .ok (.iload_n 1, 1) := by decide +kernel
theorem dX3_hasPaid_30 : decode cX3_hasPaid 30 = .ok (.invokevirtual 171, 3) := by decide +kernel
theorem dX3_hasPaid_33 : decode cX3_hasPaid 33 = .ok (.ireturn, 1) := by decide +kernel
theorem dX3_bonus_0 : decode cX3_bonus 0 = .ok (.aload_n 0, 1) := by decide +kernel
theorem dX3_bonus_1 : decode cX3_bonus 1 = .ok (.getfield 22, 3) := by decide +kernel
theorem dX3_bonus_4 : decode cX3_bonus 4 = .ok (.invokevirtual 174, 3) := by decide +kernel
theorem dX3_bonus_7 : decode cX3_bonus 7 = .ok (.ireturn, 1) := by decide +kernel
theorem dX3_offer_0 : decode cX3_offer 0 = .ok (.aload_n 0, 1) := by decide +kernel
theorem dX3_offer_1 : decode cX3_offer 1 = .ok (.iload_n 1, 1) := by decide +kernel
theorem dX3_offer_2 : decode cX3_offer 2 = .ok (.invokevirtual 110, 3) := by decide +kernel
theorem dX3_offer_5 : decode cX3_offer 5 = .ok (.iload_n 2, 1) := by decide +kernel
theorem dX3_offer_6 : decode cX3_offer 6 = .ok (.aload_n 0, 1) := by decide +kernel
theorem dX3_offer_7 : decode cX3_offer 7 = .ok (.getfield 50, 3) := by decide +kernel
theorem dX3_offer_10 : decode cX3_offer 10 = .ok (.if_icmp .lt 14, 3) := by decide +kernel
theorem dX3_offer_13 : decode cX3_offer 13 = .ok (.iload_n 2, 1) := by decide +kernel
theorem dX3_offer_14 : decode cX3_offer 14 = .ok (.aload_n 0, 1) := by decide +kernel
theorem dX3_offer_15 : decode cX3_offer 15 = .ok (.getfield 50, 3) := by decide +kernel
theorem dX3_offer_18 : decode cX3_offer 18 = .ok (.bipush 100, 2) := by decide +kernel
theorem dX3_offer_20 : decode cX3_offer 20 = .ok (.iadd, 1) := by decide +kernel
theorem dX3_offer_21 : decode cX3_offer 21 = .ok (.if_icmp .le 13, 3) := by decide +kernel
theorem dX3_offer_24 : decode cX3_offer 24 = .ok (.new 60, 3) := by decide +kernel
theorem dX3_offer_27 : decode cX3_offer 27 = .ok (.dup, 1) := by decide +kernel
theorem dX3_offer_28 : decode cX3_offer 28 = .ok (.ldc 177, 2) := by decide +kernel
theorem dX3_offer_30 : decode cX3_offer 30 = .ok (.invokespecial 64, 3) := by decide +kernel
theorem dX3_offer_33 : decode cX3_offer 33 = .ok (.athrow, 1) := by decide +kernel
theorem dX3_offer_34 : decode cX3_offer 34 = .ok (.aload_n 0, 1) := by decide +kernel
theorem dX3_offer_35 : decode cX3_offer 35 = .ok (.iload_n 1, 1) := by decide +kernel
theorem dX3_offer_36 : decode cX3_offer 36 = .ok (.invokevirtual 113, 3) := by decide +kernel
theorem dX3_offer_39 : decode cX3_offer 39 = .ok (.aload_n 0, 1) := by decide +kernel
theorem dX3_offer_40 : decode cX3_offer 40 = .ok (.getfield 29, 3) := by decide +kernel
theorem dX3_offer_43 : decode cX3_offer 43 = .ok (.iload_n 1, 1) := by decide +kernel
theorem dX3_offer_44 : decode cX3_offer 44 = .ok (.invokevirtual 179, 3) := by decide +kernel
theorem dX3_offer_47 : decode cX3_offer 47 = .ok (.iconst (-1), 1) := by decide +kernel
theorem dX3_offer_48 : decode cX3_offer 48 = .ok (.if_icmp .eq 13, 3) := by decide +kernel
theorem dX3_offer_51 : decode cX3_offer 51 = .ok (.new 74, 3) := by decide +kernel
theorem dX3_offer_54 : decode cX3_offer 54 = .ok (.dup, 1) := by decide +kernel
theorem dX3_offer_55 : decode cX3_offer 55 = .ok (.ldc 182, 2) := by decide +kernel
theorem dX3_offer_57 : decode cX3_offer 57 = .ok (.invokespecial 78, 3) := by decide +kernel
theorem dX3_offer_60 : decode cX3_offer 60 = .ok (.athrow, 1) := by decide +kernel
theorem dX3_offer_61 : decode cX3_offer 61 = .ok (.aload_n 0, 1) := by decide +kernel
theorem dX3_offer_62 : decode cX3_offer 62 = .ok (.getfield 29, 3) := by decide +kernel
theorem dX3_offer_65 : decode cX3_offer 65 = .ok (.invokevirtual 184, 3) := by decide +kernel
theorem dX3_offer_68 : decode cX3_offer 68 = .ok (.bipush 20, 2) := by decide +kernel
theorem dX3_offer_70 : decode cX3_offer 70 = .ok (.if_icmp .lt 13, 3) := by decide +kernel
theorem dX3_offer_73 : decode cX3_offer 73 = .ok (.new 74, 3) := by decide +kernel
theorem dX3_offer_76 : decode cX3_offer 76 = .ok (.dup, 1) := by decide +kernel
theorem dX3_offer_77 : decode cX3_offer 77 = .ok (.ldc 185, 2) := by decide +kernel
theorem dX3_offer_79 : decode cX3_offer 79 = .ok (.invokespecial 78, 3) := by decide +kernel
theorem dX3_offer_82 : decode cX3_offer 82 = .ok (.athrow, 1) := by decide +kernel
theorem dX3_offer_83 : decode cX3_offer 83 = .ok (.aload_n 0, 1) := by decide +kernel
theorem dX3_offer_84 : decode cX3_offer 84 = .ok (.getfield 29, 3) := by decide +kernel
theorem dX3_offer_87 : decode cX3_offer 87 = .ok (.iload_n 1, 1) := by decide +kernel
theorem dX3_offer_88 : decode cX3_offer 88 = .ok (.iload_n 2, 1) := by decide +kernel
theorem dX3_offer_89 : decode cX3_offer 89 = .ok (.invokevirtual 187, 3) := by decide +kernel
theorem dX3_offer_92 : decode cX3_offer 92 = .ok (.ireturn, 1) := by decide +kernel
theorem dX3_bid_0 : decode cX3_bid 0 = .ok (.aload_n 0, 1) := by decide +kernel
theorem dX3_bid_1 : decode cX3_bid 1 = .ok (.iload_n 1, 1) := by decide +kernel
theorem dX3_bid_2 : decode cX3_bid 2 = .ok (.invokevirtual 189, 3) := by decide +kernel
theorem dX3_bid_5 : decode cX3_bid 5 = .ok (.iload_n 2, 1) := by decide +kernel
theorem dX3_bid_6 : decode cX3_bid 6 = .ok (.ifCond .lt 8, 3) := by decide +kernel
theorem dX3_bid_9 : decode cX3_bid 9 = .ok (.iload_n 2, 1) := by decide +kernel
theorem dX3_bid_10 : decode cX3_bid 10 = .ok (.iconst 4, 1) := by decide +kernel
theorem dX3_bid_11 : decode cX3_bid 11 = .ok (.if_icmp .lt 13, 3) := by decide +kernel
theorem dX3_bid_14 : decode cX3_bid 14 = .ok (.new 60, 3) := by decide +kernel
theorem dX3_bid_17 : decode cX3_bid 17 = .ok (.dup, 1) := by decide +kernel
theorem dX3_bid_18 : decode cX3_bid 18 = .ok (.ldc 192, 2) := by decide +kernel
theorem dX3_bid_20 : decode cX3_bid 20 = .ok (.invokespecial 64, 3) := by decide +kernel
theorem dX3_bid_23 : decode cX3_bid 23 = .ok (.athrow, 1) := by decide +kernel
theorem dX3_bid_24 : decode cX3_bid 24 = .ok (.iload_n 3, 1) := by decide +kernel
theorem dX3_bid_25 : decode cX3_bid 25 = .ok (.iconst 1, 1) := by decide +kernel
theorem dX3_bid_26 : decode cX3_bid 26 = .ok (.if_icmp .lt 10, 3) := by decide +kernel
theorem dX3_bid_29 : decode cX3_bid 29 = .ok (.iload_n 3, 1) := by decide +kernel
theorem dX3_bid_30 : decode cX3_bid 30 = .ok (.sipush 1000, 3) := by decide +kernel
theorem dX3_bid_33 : decode cX3_bid 33 = .ok (.if_icmp .le 13, 3) := by decide +kernel
theorem dX3_bid_36 : decode cX3_bid 36 = .ok (.new 60, 3) := by decide +kernel
theorem dX3_bid_39 : decode cX3_bid 39 = .ok (.dup, 1) := by decide +kernel
theorem dX3_bid_40 : decode cX3_bid 40 = .ok (.ldc 194, 2) := by decide +kernel
theorem dX3_bid_42 : decode cX3_bid 42 = .ok (.invokespecial 64, 3) := by decide +kernel
theorem dX3_bid_45 : decode cX3_bid 45 = .ok (.athrow, 1) := by decide +kernel
theorem dX3_bid_46 : decode cX3_bid 46 = .ok (.aload_n 0, 1) := by decide +kernel
theorem dX3_bid_47 : decode cX3_bid 47 = .ok (.iload_n 1, 1) := by decide +kernel
theorem dX3_bid_48 : decode cX3_bid 48 = .ok (.invokevirtual 196, 3) := by decide +kernel
theorem dX3_bid_51 : decode cX3_bid 51 = .ok (.aload_n 0, 1) := by decide +kernel
theorem dX3_bid_52 : decode cX3_bid 52 = .ok (.getfield 29, 3) := by decide +kernel
theorem dX3_bid_55 : decode cX3_bid 55 = .ok (.iload_n 1, 1) := by decide +kernel
theorem dX3_bid_56 : decode cX3_bid 56 = .ok (.iload_n 2, 1) := by decide +kernel
theorem dX3_bid_57 : decode cX3_bid 57 = .ok (.invokevirtual 199, 3) := by decide +kernel
theorem dX3_bid_60 : decode cX3_bid 60 = .ok (.iconst (-1), 1) := by decide +kernel
theorem dX3_bid_61 : decode cX3_bid 61 = .ok (.if_icmp .eq 13, 3) := by decide +kernel
theorem dX3_bid_64 : decode cX3_bid 64 = .ok (.new 74, 3) := by decide +kernel
theorem dX3_bid_67 : decode cX3_bid 67 = .ok (.dup, 1) := by decide +kernel
theorem dX3_bid_68 : decode cX3_bid 68 = .ok (.ldc 202, 2) := by decide +kernel
theorem dX3_bid_70 : decode cX3_bid 70 = .ok (.invokespecial 78, 3) := by decide +kernel
theorem dX3_bid_73 : decode cX3_bid 73 = .ok (.athrow, 1) := by decide +kernel
theorem dX3_bid_74 : decode cX3_bid 74 = .ok (.aload_n 0, 1) := by decide +kernel
theorem dX3_bid_75 : decode cX3_bid 75 = .ok (.getfield 29, 3) := by decide +kernel
theorem dX3_bid_78 : decode cX3_bid 78 = .ok (.iload_n 1, 1) := by decide +kernel
theorem dX3_bid_79 : decode cX3_bid 79 = .ok (.iload_n 2, 1) := by decide +kernel
theorem dX3_bid_80 : decode cX3_bid 80 = .ok (.iload_n 3, 1) := by decide +kernel
theorem dX3_bid_81 : decode cX3_bid 81 = .ok (.invokevirtual 204, 3) := by decide +kernel
theorem dX3_bid_84 : decode cX3_bid 84 = .ok (.return_, 1) := by decide +kernel
theorem dX3_give_0 : decode cX3_give 0 = .ok (.aload_n 0, 1) := by decide +kernel
theorem dX3_give_1 : decode cX3_give 1 = .ok (.iload_n 1, 1) := by decide +kernel
theorem dX3_give_2 : decode cX3_give 2 = .ok (.invokevirtual 189, 3) := by decide +kernel
theorem dX3_give_5 : decode cX3_give 5 = .ok (.aload_n 0, 1) := by decide +kernel
theorem dX3_give_6 : decode cX3_give 6 = .ok (.iload_n 1, 1) := by decide +kernel
theorem dX3_give_7 : decode cX3_give 7 = .ok (.invokevirtual 196, 3) := by decide +kernel
theorem dX3_give_10 : decode cX3_give 10 = .ok (.aload_n 0, 1) := by decide +kernel
theorem dX3_give_11 : decode cX3_give 11 = .ok (.getfield 29, 3) := by decide +kernel
theorem dX3_give_14 : decode cX3_give 14 = .ok (.iload_n 1, 1) := by decide +kernel
theorem dX3_give_15 : decode cX3_give 15 = .ok (.invokevirtual 208, 3) := by decide +kernel
theorem dX3_give_18 : decode cX3_give 18 = .ok (.istore_n 2, 1) := by decide +kernel
theorem dX3_give_19 : decode cX3_give 19 = .ok (.iload_n 2, 1) := by decide +kernel
theorem dX3_give_20 : decode cX3_give 20 = .ok (.iconst (-1), 1) := by decide +kernel
theorem dX3_give_21 : decode cX3_give 21 = .ok (.if_icmp .ne 13, 3) := by decide +kernel
theorem dX3_give_24 : decode cX3_give 24 = .ok (.new 74, 3) := by decide +kernel
theorem dX3_give_27 : decode cX3_give 27 = .ok (.dup, 1) := by decide +kernel
theorem dX3_give_28 : decode cX3_give 28 = .ok (.ldc 211, 2) := by decide +kernel
theorem dX3_give_30 : decode cX3_give 30 = .ok (.invokespecial 78, 3) := by decide +kernel
theorem dX3_give_33 : decode cX3_give 33 = .ok (.athrow, 1) := by decide +kernel
theorem dX3_give_34 : decode cX3_give 34 = .ok (.aload_n 0, 1) := by decide +kernel
theorem dX3_give_35 : decode cX3_give 35 = .ok (.getfield 29, 3) := by decide +kernel
theorem dX3_give_38 : decode cX3_give 38 = .ok (.iload_n 1, 1) := by decide +kernel
theorem dX3_give_39 : decode cX3_give 39 = .ok (.iload_n 2, 1) := by decide +kernel
theorem dX3_give_40 : decode cX3_give 40 = .ok (.invokevirtual 213, 3) := by decide +kernel
theorem dX3_give_43 : decode cX3_give 43 = .ok (.iload_n 2, 1) := by decide +kernel
theorem dX3_give_44 : decode cX3_give 44 = .ok (.ireturn, 1) := by decide +kernel
theorem dX3_load_0 : decode cX3_load 0 = .ok (.aload_n 0, 1) := by decide +kernel
theorem dX3_load_1 : decode cX3_load 1 = .ok (.invokevirtual 104, 3) := by decide +kernel
theorem dX3_load_4 : decode cX3_load 4 = .ok (.aload_n 0, 1) := by decide +kernel
theorem dX3_load_5 : decode cX3_load 5 = .ok (.getfield 29, 3) := by decide +kernel
theorem dX3_load_8 : decode cX3_load 8 = .ok (.aload_n 0, 1) := by decide +kernel
theorem dX3_load_9 : decode cX3_load 9 = .ok (.getfield 44, 3) := by decide +kernel
theorem dX3_load_12 : decode cX3_load 12 = .ok (.invokevirtual 179, 3) := by decide +kernel
theorem dX3_load_15 : decode cX3_load 15 = .ok (.istore_n 1, 1) := by decide +kernel
theorem dX3_load_16 : decode cX3_load 16 = .ok (.iload_n 1, 1) := by decide +kernel
theorem dX3_load_17 : decode cX3_load 17 = .ok (.iconst (-1), 1) := by decide +kernel
theorem dX3_load_18 : decode cX3_load 18 = .ok (.if_icmp .eq 15, 3) := by decide +kernel
theorem dX3_load_21 : decode cX3_load 21 = .ok (.aload_n 0, 1) := by decide +kernel
theorem dX3_load_22 : decode cX3_load 22 = .ok (.getfield 29, 3) := by decide +kernel
theorem dX3_load_25 : decode cX3_load 25 = .ok (.iload_n 1, 1) := by decide +kernel
theorem dX3_load_26 : decode cX3_load 26 = .ok (.invokevirtual 216, 3) := by decide +kernel
theorem dX3_load_29 : decode cX3_load 29 = .ok (.iconst 1, 1) := by decide +kernel
theorem dX3_load_30 : decode cX3_load 30 = .ok (.if_icmp .eq 13, 3) := by decide +kernel
theorem dX3_load_33 : decode cX3_load 33 = .ok (.new 74, 3) := by decide +kernel
theorem dX3_load_36 : decode cX3_load 36 = .ok (.dup, 1) := by decide +kernel
theorem dX3_load_37 : decode cX3_load 37 = .ok (.ldc 219, 2) := by decide +kernel
theorem dX3_load_39 : decode cX3_load 39 = .ok (.invokespecial 78, 3) := by decide +kernel
theorem dX3_load_42 : decode cX3_load 42 = .ok (.athrow, 1) := by decide +kernel
theorem dX3_load_43 : decode cX3_load 43 = .ok (.aload_n 0, 1) := by decide +kernel
theorem dX3_load_44 : decode cX3_load 44 = .ok (.iconst (-1), 1) := by decide +kernel
theorem dX3_load_45 : decode cX3_load 45 = .ok (.putfield 44, 3) := by decide +kernel
theorem dX3_load_48 : decode cX3_load 48 = .ok (.aload_n 0, 1) := by decide +kernel
theorem dX3_load_49 : decode cX3_load 49 = .ok (.getfield 29, 3) := by decide +kernel
theorem dX3_load_52 : decode cX3_load 52 = .ok (.iload_n 1, 1) := by decide +kernel
theorem dX3_load_53 : decode cX3_load 53 = .ok (.invokevirtual 221, 3) := by decide +kernel
theorem dX3_load_56 : decode cX3_load 56 = .ok (.ireturn, 1) := by decide +kernel
theorem dX3_state_0 : decode cX3_state 0 = .ok (.aload_n 0, 1) := by decide +kernel
theorem dX3_state_1 : decode cX3_state 1 = .ok (.iload_n 1, 1) := by decide +kernel
theorem dX3_state_2 : decode cX3_state 2 = .ok (.invokevirtual 189, 3) := by decide +kernel
theorem dX3_state_5 : decode cX3_state 5 = .ok (.aload_n 0, 1) := by decide +kernel
theorem dX3_state_6 : decode cX3_state 6 = .ok (.getfield 29, 3) := by decide +kernel
theorem dX3_state_9 : decode cX3_state 9 = .ok (.iload_n 1, 1) := by decide +kernel
theorem dX3_state_10 : decode cX3_state 10 = .ok (.invokevirtual 216, 3) := by decide +kernel
theorem dX3_state_13 : decode cX3_state 13 = .ok (.ireturn, 1) := by decide +kernel
theorem dX3_storm_0 : decode cX3_storm 0 = .ok (.aload_n 0, 1) := by decide +kernel
theorem dX3_storm_1 : decode cX3_storm 1 = .ok (.iconst 1, 1) := by decide +kernel
theorem dX3_storm_2 : decode cX3_storm 2 = .ok (.putfield 53, 3) := by decide +kernel
theorem dX3_storm_5 : decode cX3_storm 5 = .ok (.aload_n 0, 1) := by decide +kernel
theorem dX3_storm_6 : decode cX3_storm 6 = .ok (.getfield 10, 3) := by decide +kernel
theorem dX3_storm_9 : decode cX3_storm 9 = .ok (.aload_n 0, 1) := by decide +kernel
theorem dX3_storm_10 : decode cX3_storm 10 = .ok (.invokevirtual 120, 3) := by decide +kernel
theorem dX3_storm_13 : decode cX3_storm 13 = .ok (.invokevirtual 224, 3) := by decide +kernel
theorem dX3_storm_16 : decode cX3_storm 16 = .ok (.ireturn, 1) := by decide +kernel
theorem dX3_pass_0 : decode cX3_pass 0 = .ok (.iload_n 1, 1) := by decide +kernel
theorem dX3_pass_1 : decode cX3_pass 1 = .ok (.iconst 1, 1) := by decide +kernel
theorem dX3_pass_2 : decode cX3_pass 2 = .ok (.if_icmp .lt 9, 3) := by decide +kernel
theorem dX3_pass_5 : decode cX3_pass 5 = .ok (.iload_n 1, 1) := by decide +kernel
theorem dX3_pass_6 : decode cX3_pass 6 = .ok (.bipush 100, 2) := by decide +kernel
theorem dX3_pass_8 : decode cX3_pass 8 = .ok (.if_icmp .le 13, 3) := by decide +kernel
theorem dX3_pass_11 : decode cX3_pass 11 = .ok (.new 60, 3) := by decide +kernel
theorem dX3_pass_14 : decode cX3_pass 14 = .ok (.dup, 1) := by decide +kernel
theorem dX3_pass_15 : decode cX3_pass 15 = .ok (.ldc 227, 2) := by decide +kernel
theorem dX3_pass_17 : decode cX3_pass 17 = .ok (.invokespecial 64, 3) := by decide +kernel
theorem dX3_pass_20 : decode cX3_pass 20 = .ok (.athrow, 1) := by decide +kernel
theorem dX3_pass_21 : decode cX3_pass 21 = .ok (.aload_n 0, 1) := by decide +kernel
theorem dX3_pass_22 : decode cX3_pass 22 = .ok (.getfield 50, 3) := by decide +kernel
theorem dX3_pass_25 : decode cX3_pass 25 = .ok (.iload_n 1, 1) := by decide +kernel
theorem dX3_pass_26 : decode cX3_pass 26 = .ok (.iadd, 1) := by decide +kernel
theorem dX3_pass_27 : decode cX3_pass 27 = .ok (.sipush 10000, 3) := by decide +kernel
theorem dX3_pass_30 : decode cX3_pass 30 = .ok (.if_icmp .le 13, 3) := by decide +kernel
theorem dX3_pass_33 : decode cX3_pass 33 = .ok (.new 74, 3) := by decide +kernel
theorem dX3_pass_36 : decode cX3_pass 36 = .ok (.dup, 1) := by decide +kernel
theorem dX3_pass_37 : decode cX3_pass 37 = .ok (.ldc 229, 2) := by decide +kernel
theorem dX3_pass_39 : decode cX3_pass 39 = .ok (.invokespecial 78, 3) := by decide +kernel
theorem dX3_pass_42 : decode cX3_pass 42 = .ok (.athrow, 1) := by decide +kernel
theorem dX3_pass_43 : decode cX3_pass 43 = .ok (.aload_n 0, 1) := by decide +kernel
theorem dX3_pass_44 : decode cX3_pass 44 = .ok (.getfield 57, 3) := by decide +kernel
theorem dX3_pass_47 : decode cX3_pass 47 = .ok (.istore_n 2, 1) := by decide +kernel
theorem dX3_pass_48 : decode cX3_pass 48 = .ok (.iconst 0, 1) := by decide +kernel
theorem dX3_pass_49 : decode cX3_pass 49 = .ok (.istore_n 3, 1) := by decide +kernel
theorem dX3_pass_50 : decode cX3_pass 50 = .ok (.iload_n 3, 1) := by decide +kernel
theorem dX3_pass_51 : decode cX3_pass 51 = .ok (.iload_n 1, 1) := by decide +kernel
theorem dX3_pass_52 : decode cX3_pass 52 = .ok (.if_icmp .ge 13, 3) := by decide +kernel
theorem dX3_pass_55 : decode cX3_pass 55 = .ok (.aload_n 0, 1) := by decide +kernel
theorem dX3_pass_56 : decode cX3_pass 56 = .ok (.invokevirtual 231, 3) := by decide +kernel
theorem dX3_pass_59 : decode cX3_pass 59 = .ok (.iinc 3 1, 3) := by decide +kernel
theorem dX3_pass_62 : decode cX3_pass 62 = .ok (.goto (-12), 3) := by decide +kernel
theorem dX3_pass_65 : decode cX3_pass 65 = .ok (.aload_n 0, 1) := by decide +kernel
theorem dX3_pass_66 : decode cX3_pass 66 = .ok (.getfield 57, 3) := by decide +kernel
theorem dX3_pass_69 : decode cX3_pass 69 = .ok (.iload_n 2, 1) := by decide +kernel
theorem dX3_pass_70 : decode cX3_pass 70 = .ok (.isub, 1) := by decide +kernel
theorem dX3_pass_71 : decode cX3_pass 71 = .ok (.ireturn, 1) := by decide +kernel
theorem dX3_today_0 : decode cX3_today 0 = .ok (.aload_n 0, 1) := by decide +kernel
theorem dX3_today_1 : decode cX3_today 1 = .ok (.getfield 50, 3) := by decide +kernel
theorem dX3_today_4 : decode cX3_today 4 = .ok (.ireturn, 1) := by decide +kernel
theorem dX3_balance_0 : decode cX3_balance 0 = .ok (.aload_n 0, 1) := by decide +kernel
theorem dX3_balance_1 : decode cX3_balance 1 = .ok (.getfield 22, 3) := by decide +kernel
theorem dX3_balance_4 : decode cX3_balance 4 = .ok (.invokevirtual 174, 3) := by decide +kernel
theorem dX3_balance_7 : decode cX3_balance 7 = .ok (.aload_n 0, 1) := by decide +kernel
theorem dX3_balance_8 : decode cX3_balance 8 = .ok (.getfield 57, 3) := by decide +kernel
theorem dX3_balance_11 : decode cX3_balance 11 = .ok (.isub, 1) := by decide +kernel
theorem dX3_balance_12 : decode cX3_balance 12 = .ok (.aload_n 0, 1) := by decide +kernel
theorem dX3_balance_13 : decode cX3_balance 13 = .ok (.getfield 29, 3) := by decide +kernel
theorem dX3_balance_16 : decode cX3_balance 16 = .ok (.invokevirtual 234, 3) := by decide +kernel
theorem dX3_balance_19 : decode cX3_balance 19 = .ok (.isub, 1) := by decide +kernel
theorem dX3_balance_20 : decode cX3_balance 20 = .ok (.aload_n 0, 1) := by decide +kernel
theorem dX3_balance_21 : decode cX3_balance 21 = .ok (.getfield 29, 3) := by decide +kernel
theorem dX3_balance_24 : decode cX3_balance 24 = .ok (.invokevirtual 237, 3) := by decide +kernel
theorem dX3_balance_27 : decode cX3_balance 27 = .ok (.isub, 1) := by decide +kernel
theorem dX3_balance_28 : decode cX3_balance 28 = .ok (.ireturn, 1) := by decide +kernel
theorem dX3_requireStack_0 : decode cX3_requireStack 0 = .ok (.iload_n 0, 1) := by decide +kernel
theorem dX3_requireStack_1 : decode cX3_requireStack 1 = .ok (.ifCond .lt 9, 3) := by decide +kernel
theorem dX3_requireStack_4 : decode cX3_requireStack 4 = .ok (.iload_n 0, 1) := by decide +kernel
theorem dX3_requireStack_5 : decode cX3_requireStack 5 = .ok (.bipush 6, 2) := by decide +kernel
theorem dX3_requireStack_7 : decode cX3_requireStack 7 = .ok (.if_icmp .lt 13, 3) := by decide +kernel
theorem dX3_requireStack_10 : decode cX3_requireStack 10 = .ok (.new 60, 3) := by decide +kernel
theorem dX3_requireStack_13 : decode cX3_requireStack 13 = .ok (.dup, 1) := by decide +kernel
theorem dX3_requireStack_14 : decode cX3_requireStack 14 = .ok (.ldc 240, 2) := by decide +kernel
theorem dX3_requireStack_16 : decode cX3_requireStack 16 = .ok (.invokespecial 64, 3) := by decide +kernel
theorem dX3_requireStack_19 : decode cX3_requireStack 19 = .ok (.athrow, 1) := by decide +kernel
theorem dX3_requireStack_20 : decode cX3_requireStack 20 = .ok (.return_, 1) := by decide +kernel
theorem dX3_requireLetter_0 : decode cX3_requireLetter 0 = .ok (.iload_n 0, 1) := by decide +kernel
theorem dX3_requireLetter_1 : decode cX3_requireLetter 1 = .ok (.ifCond .lt 9, 3) := by decide +kernel
theorem dX3_requireLetter_4 : decode cX3_requireLetter 4 = .ok (.iload_n 0, 1) := by decide +kernel
theorem dX3_requireLetter_5 : decode cX3_requireLetter 5 = .ok (.bipush 26, 2) := by decide +kernel
theorem dX3_requireLetter_7 : decode cX3_requireLetter 7 = .ok (.if_icmp .lt 13, 3) := by decide +kernel
theorem dX3_requireLetter_10 : decode cX3_requireLetter 10 = .ok (.new 60, 3) := by decide +kernel
theorem dX3_requireLetter_13 : decode cX3_requireLetter 13 = .ok (.dup, 1) := by decide +kernel
theorem dX3_requireLetter_14 : decode cX3_requireLetter 14 = .ok (.ldc 242, 2) := by decide +kernel
theorem dX3_requireLetter_16 : decode cX3_requireLetter 16 = .ok (.invokespecial 64, 3) := by decide +kernel
theorem dX3_requireLetter_19 : decode cX3_requireLetter 19 = .ok (.athrow, 1) := by decide +kernel
theorem dX3_requireLetter_20 : decode cX3_requireLetter 20 = .ok (.return_, 1) := by decide +kernel
theorem dX3_requireCrate_0 : decode cX3_requireCrate 0 = .ok (.iload_n 1, 1) := by decide +kernel
theorem dX3_requireCrate_1 : decode cX3_requireCrate 1 = .ok (.ifCond .lt 11, 3) := by decide +kernel
theorem dX3_requireCrate_4 : decode cX3_requireCrate 4 = .ok (.iload_n 1, 1) := by decide +kernel
theorem dX3_requireCrate_5 : decode cX3_requireCrate 5 = .ok (.aload_n 0, 1) := by decide +kernel
theorem dX3_requireCrate_6 : decode cX3_requireCrate 6 = .ok (.getfield 40, 3) := by decide +kernel
theorem dX3_requireCrate_9 : decode cX3_requireCrate 9 = .ok (.if_icmp .lt 13, 3) := by decide +kernel
theorem dX3_requireCrate_12 : decode cX3_requireCrate 12 = .ok (.new 166, 3) := by decide +kernel
theorem dX3_requireCrate_15 : decode cX3_requireCrate 15 = .ok (.dup, 1) := by decide +kernel
theorem dX3_requireCrate_16 : decode cX3_requireCrate 16 = .ok (.ldc 244, 2) := by decide +kernel
theorem dX3_requireCrate_18 : decode cX3_requireCrate 18 = .ok (.invokespecial 170, 3) := by decide +kernel
theorem dX3_requireCrate_21 : decode cX3_requireCrate 21 = .ok (.athrow, 1) := by decide +kernel
theorem dX3_requireCrate_22 : decode cX3_requireCrate 22 = .ok (.return_, 1) := by decide +kernel
theorem dX3_requireHaul_0 : decode cX3_requireHaul 0 = .ok (.iload_n 1, 1) := by decide +kernel
theorem dX3_requireHaul_1 : decode cX3_requireHaul 1 = .ok (.ifCond .lt 14, 3) := by decide +kernel
theorem dX3_requireHaul_4 : decode cX3_requireHaul 4 = .ok (.iload_n 1, 1) := by decide +kernel
theorem dX3_requireHaul_5 : decode cX3_requireHaul 5 = .ok (.aload_n 0, 1) := by decide +kernel
theorem dX3_requireHaul_6 : decode cX3_requireHaul 6 = .ok (.getfield 29, 3) := by decide +kernel
theorem dX3_requireHaul_9 : decode cX3_requireHaul 9 = .ok (.invokevirtual 184, 3) := by decide +kernel
theorem dX3_requireHaul_12 : decode cX3_requireHaul 12 = .ok (.if_icmp .lt 13, 3) := by decide +kernel
theorem dX3_requireHaul_15 : decode cX3_requireHaul 15 = .ok (.new 166, 3) := by decide +kernel
theorem dX3_requireHaul_18 : decode cX3_requireHaul 18 = .ok (.dup, 1) := by decide +kernel
theorem dX3_requireHaul_19 : decode cX3_requireHaul 19 = .ok (.ldc 246, 2) := by decide +kernel
theorem dX3_requireHaul_21 : decode cX3_requireHaul 21 = .ok (.invokespecial 170, 3) := by decide +kernel
theorem dX3_requireHaul_24 : decode cX3_requireHaul 24 = .ok (.athrow, 1) := by decide +kernel
theorem dX3_requireHaul_25 : decode cX3_requireHaul 25 = .ok (.return_, 1) := by decide +kernel
theorem dX3_requireOffered_0 : decode cX3_requireOffered 0 = .ok (.aload_n 0, 1) := by decide +kernel
theorem dX3_requireOffered_1 : decode cX3_requireOffered 1 = .ok (.getfield 29, 3) := by decide +kernel
theorem dX3_requireOffered_4 : decode cX3_requireOffered 4 = .ok (.iload_n 1, 1) := by decide +kernel
theorem dX3_requireOffered_5 : decode cX3_requireOffered 5 = .ok (.invokevirtual 216, 3) := by decide +kernel
theorem dX3_requireOffered_8 : decode cX3_requireOffered 8 = .ok (.ifCond .eq 13, 3) := by decide +kernel
theorem dX3_requireOffered_11 : decode cX3_requireOffered 11 = .ok (.new 74, 3) := by decide +kernel
theorem dX3_requireOffered_14 : decode cX3_requireOffered 14 = .ok (.dup, 1) := by decide +kernel
theorem dX3_requireOffered_15 : decode cX3_requireOffered 15 = .ok (.ldc 248, 2) := by decide +kernel
theorem dX3_requireOffered_17 : decode cX3_requireOffered 17 = .ok (.invokespecial 78, 3) := by decide +kernel
theorem dX3_requireOffered_20 : decode cX3_requireOffered 20 = .ok (.athrow, 1) := by decide +kernel
theorem dX3_requireOffered_21 : decode cX3_requireOffered 21 = .ok (.return_, 1) := by decide +kernel
theorem dX3_requireEmptyCrane_0 : decode cX3_requireEmptyCrane 0 = .ok (.aload_n 0, 1) := by decide +kernel
theorem dX3_requireEmptyCrane_1 : decode cX3_requireEmptyCrane 1 = .ok (.getfield 44, 3) := by decide +kernel
theorem dX3_requireEmptyCrane_4 : decode cX3_requireEmptyCrane 4 = .ok (.iconst (-1), 1) := by decide +kernel
theorem dX3_requireEmptyCrane_5 : decode cX3_requireEmptyCrane 5 = .ok (.if_icmp .eq 13, 3) := by decide +kernel
theorem dX3_requireEmptyCrane_8 : decode cX3_requireEmptyCrane 8 = .ok (.new 74, 3) := by decide +kernel
theorem dX3_requireEmptyCrane_11 : decode cX3_requireEmptyCrane 11 = .ok (.dup, 1) := by decide +kernel
theorem dX3_requireEmptyCrane_12 : decode cX3_requireEmptyCrane 12 = .ok (.ldc 250, 2) := by decide +kernel
theorem dX3_requireEmptyCrane_14 : decode cX3_requireEmptyCrane 14 = .ok (.invokespecial 78, 3) := by decide +kernel
theorem dX3_requireEmptyCrane_17 : decode cX3_requireEmptyCrane 17 = .ok (.athrow, 1) := by decide +kernel
theorem dX3_requireEmptyCrane_18 : decode cX3_requireEmptyCrane 18 = .ok (.return_, 1) := by decide +kernel
theorem dX3_requireFullCrane_0 : decode cX3_requireFullCrane 0 = .ok (.aload_n 0, 1) := by decide +kernel
theorem dX3_requireFullCrane_1 : decode cX3_requireFullCrane 1 = .ok (.getfield 44, 3) := by decide +kernel
theorem dX3_requireFullCrane_4 : decode cX3_requireFullCrane 4 = .ok (.iconst (-1), 1) := by decide +kernel
theorem dX3_requireFullCrane_5 : decode cX3_requireFullCrane 5 = .ok (.if_icmp .ne 13, 3) := by decide +kernel
theorem dX3_requireFullCrane_8 : decode cX3_requireFullCrane 8 = .ok (.new 74, 3) := by decide +kernel
theorem dX3_requireFullCrane_11 : decode cX3_requireFullCrane 11 = .ok (.dup, 1) := by decide +kernel
theorem dX3_requireFullCrane_12 : decode cX3_requireFullCrane 12 = .ok (.ldc 252, 2) := by decide +kernel
theorem dX3_requireFullCrane_14 : decode cX3_requireFullCrane 14 = .ok (.invokespecial 78, 3) := by decide +kernel
theorem dX3_requireFullCrane_17 : decode cX3_requireFullCrane 17 = .ok (.athrow, 1) := by decide +kernel
theorem dX3_requireFullCrane_18 : decode cX3_requireFullCrane 18 = .ok (.return_, 1) := by decide +kernel
theorem dX3_requireInStack_0 : decode cX3_requireInStack 0 = .ok (.aload_n 0, 1) := by decide +kernel
theorem dX3_requireInStack_1 : decode cX3_requireInStack 1 = .ok (.getfield 10, 3) := by decide +kernel
theorem dX3_requireInStack_4 : decode cX3_requireInStack 4 = .ok (.iload_n 1, 1) := by decide +kernel
theorem dX3_requireInStack_5 : decode cX3_requireInStack 5 = .ok (.invokevirtual 135, 3) := by decide +kernel
theorem dX3_requireInStack_8 : decode cX3_requireInStack 8 = .ok (.iconst (-1), 1) := by decide +kernel
theorem dX3_requireInStack_9 : decode cX3_requireInStack 9 = .ok (.if_icmp .ne 13, 3) := by decide +kernel
theorem dX3_requireInStack_12 : decode cX3_requireInStack 12 = .ok (.new 74, 3) := by decide +kernel
theorem dX3_requireInStack_15 : decode cX3_requireInStack 15 = .ok (.dup, 1) := by decide +kernel
theorem dX3_requireInStack_16 : decode cX3_requireInStack 16 = .ok (.ldc 254, 2) := by decide +kernel
theorem dX3_requireInStack_18 : decode cX3_requireInStack 18 = .ok (.invokespecial 78, 3) := by decide +kernel
theorem dX3_requireInStack_21 : decode cX3_requireInStack 21 = .ok (.athrow, 1) := by decide +kernel
theorem dX3_requireInStack_22 : decode cX3_requireInStack 22 = .ok (.return_, 1) := by decide +kernel
theorem dX3_requireRoom_0 : decode cX3_requireRoom 0 = .ok (.aload_n 0, 1) := by decide +kernel
theorem dX3_requireRoom_1 : decode cX3_requireRoom 1 = .ok (.getfield 10, 3) := by decide +kernel
theorem dX3_requireRoom_4 : decode cX3_requireRoom 4 = .ok (.iload_n 1, 1) := by decide +kernel
theorem dX3_requireRoom_5 : decode cX3_requireRoom 5 = .ok (.iload_n 2, 1) := by decide +kernel
theorem dX3_requireRoom_6 : decode cX3_requireRoom 6 = .ok (.aload_n 0, 1) := by decide +kernel
theorem dX3_requireRoom_7 : decode cX3_requireRoom 7 = .ok (.invokevirtual 120, 3) := by decide +kernel
theorem dX3_requireRoom_10 : decode cX3_requireRoom 10 = .ok (.invokevirtual 256, 3) := by decide +kernel
theorem dX3_requireRoom_13 : decode cX3_requireRoom 13 = .ok (.ifCond .ne 14, 3) := by decide +kernel
theorem dX3_requireRoom_16 : decode cX3_requireRoom 16 = .ok (.new 74, 3) := by decide +kernel
theorem dX3_requireRoom_19 : decode cX3_requireRoom 19 = .ok (.dup, 1) := by decide +kernel
theorem dX3_requireRoom_20 : decode cX3_requireRoom 20 = .ok (.ldc_w 260, 3) := by decide +kernel
theorem dX3_requireRoom_23 : decode cX3_requireRoom 23 = .ok (.invokespecial 78, 3) := by decide +kernel
theorem dX3_requireRoom_26 : decode cX3_requireRoom 26 = .ok (.athrow, 1) := by decide +kernel
theorem dX3_requireRoom_27 : decode cX3_requireRoom 27 = .ok (.return_, 1) := by decide +kernel
theorem dX3_mostPlaces_0 : decode cX3_mostPlaces 0 = .ok (.aload_n 0, 1) := by decide +kernel
theorem dX3_mostPlaces_1 : decode cX3_mostPlaces 1 = .ok (.getfield 53, 3) := by decide +kernel
theorem dX3_mostPlaces_4 : decode cX3_mostPlaces 4 = .ok (.ifCond .eq 7, 3) := by decide +kernel
theorem dX3_mostPlaces_7 : decode cX3_mostPlaces 7 = .ok (.iconst 3, 1) := by decide +kernel
theorem dX3_mostPlaces_8 : decode cX3_mostPlaces 8 = .ok (.goto 4, 3) := by decide +kernel
theorem dX3_mostPlaces_11 : decode cX3_mostPlaces 11 = .ok (.iconst 5, 1) := by decide +kernel
theorem dX3_mostPlaces_12 : decode cX3_mostPlaces 12 = .ok (.ireturn, 1) := by decide +kernel
theorem dX3_payWords_0 : decode cX3_payWords 0 = .ok (.iconst 0, 1) := by decide +kernel
theorem dX3_payWords_1 : decode cX3_payWords 1 = .ok (.istore_n 1, 1) := by decide +kernel
theorem dX3_payWords_2 : decode cX3_payWords 2 = .ok (.iconst 0, 1) := by decide +kernel
theorem dX3_payWords_3 : decode cX3_payWords 3 = .ok (.istore_n 2, 1) := by decide +kernel
theorem dX3_payWords_4 : decode cX3_payWords 4 = .ok (.iload_n 2, 1) := by decide +kernel
theorem dX3_payWords_5 : decode cX3_payWords 5 = .ok (.bipush 6, 2) := by decide +kernel
theorem dX3_payWords_7 : decode cX3_payWords 7 = .ok (.if_icmp .ge 43, 3) := by decide +kernel
theorem dX3_payWords_10 : decode cX3_payWords 10 = .ok (.aload_n 0, 1) := by decide +kernel
theorem dX3_payWords_11 : decode cX3_payWords 11 = .ok (.getfield 10, 3) := by decide +kernel
theorem dX3_payWords_14 : decode cX3_payWords 14 = .ok (.iload_n 2, 1) := by decide +kernel
theorem dX3_payWords_15 : decode cX3_payWords 15 = .ok (.invokevirtual 262, 3) := by decide +kernel
theorem dX3_payWords_18 : decode cX3_payWords 18 = .ok (.istore_n 3, 1) := by decide +kernel
theorem dX3_payWords_19 : decode cX3_payWords 19 = .ok (.iload_n 3, 1) := by decide +kernel
theorem dX3_payWords_20 : decode cX3_payWords 20 = .ok (.ifCond .lt 24, 3) := by decide +kernel
theorem dX3_payWords_23 : decode cX3_payWords 23 = .ok (.iload_n 3, 1) := by decide +kernel
theorem dX3_payWords_24 : decode cX3_payWords 24 = .ok (.bipush 30, 2) := by decide +kernel
theorem dX3_payWords_26 : decode cX3_payWords 26 = .ok (.if_icmp .ge 18, 3) := by decide +kernel
theorem dX3_payWords_29 : decode cX3_payWords 29 = .ok (.aload_n 0, 1) := by decide +kernel
theorem dX3_payWords_30 : decode cX3_payWords 30 = .ok (.getfield 37, 3) := by decide +kernel
theorem dX3_payWords_33 : decode cX3_payWords 33 = .ok (.iload_n 1, 1) := by decide +kernel
theorem dX3_payWords_34 : decode cX3_payWords 34 = .ok (.aload_n 0, 1) := by decide +kernel
theorem dX3_payWords_35 : decode cX3_payWords 35 = .ok (.getfield 33, 3) := by decide +kernel
theorem dX3_payWords_38 : decode cX3_payWords 38 = .ok (.iload_n 3, 1) := by decide +kernel
theorem dX3_payWords_39 : decode cX3_payWords 39 = .ok (.iaload, 1) := by decide +kernel
theorem dX3_payWords_40 : decode cX3_payWords 40 = .ok (.iastore, 1) := by decide +kernel
theorem dX3_payWords_41 : decode cX3_payWords 41 = .ok (.iinc 1 1, 3) := by decide +kernel
theorem dX3_payWords_44 : decode cX3_payWords 44 = .ok (.iinc 2 1, 3) := by decide +kernel
theorem dX3_payWords_47 : decode cX3_payWords 47 = .ok (.goto (-43), 3) := by decide +kernel
theorem dX3_payWords_50 : decode cX3_payWords 50 = .ok (.aload_n 0, 1) := by decide +kernel
theorem dX3_payWords_51 : decode cX3_payWords 51 = .ok (.getfield 22, 3) := by decide +kernel
theorem dX3_payWords_54 : decode cX3_payWords 54 = .ok (.aload_n 0, 1) := by decide +kernel
theorem dX3_payWords_55 : decode cX3_payWords 55 = .ok (.getfield 37, 3) := by decide +kernel
theorem dX3_payWords_58 : decode cX3_payWords 58 = .ok (.iload_n 1, 1) := by decide +kernel
theorem dX3_payWords_59 : decode cX3_payWords 59 = .ok (.invokevirtual 265, 3) := by decide +kernel
theorem dX3_payWords_62 : decode cX3_payWords 62 = .ok (.return_, 1) := by decide +kernel
theorem dX3_endDay_0 : decode cX3_endDay 0 = .ok (.aload_n 0, 1) := by decide +kernel
theorem dX3_endDay_1 : decode cX3_endDay 1 = .ok (.dup, 1) := by decide +kernel
theorem dX3_endDay_2 : decode cX3_endDay 2 = .ok (.getfield 57, 3) := by decide +kernel
theorem dX3_endDay_5 : decode cX3_endDay 5 = .ok (.aload_n 0, 1) := by decide +kernel
theorem dX3_endDay_6 : decode cX3_endDay 6 = .ok (.getfield 10, 3) := by decide +kernel
theorem dX3_endDay_9 : decode cX3_endDay 9 = .ok (.invokevirtual 269, 3) := by decide +kernel
theorem dX3_endDay_12 : decode cX3_endDay 12 = .ok (.iadd, 1) := by decide +kernel
theorem dX3_endDay_13 : decode cX3_endDay 13 = .ok (.putfield 57, 3) := by decide +kernel
theorem dX3_endDay_16 : decode cX3_endDay 16 = .ok (.aload_n 0, 1) := by decide +kernel
theorem dX3_endDay_17 : decode cX3_endDay 17 = .ok (.getfield 29, 3) := by decide +kernel
theorem dX3_endDay_20 : decode cX3_endDay 20 = .ok (.aload_n 0, 1) := by decide +kernel
theorem dX3_endDay_21 : decode cX3_endDay 21 = .ok (.getfield 50, 3) := by decide +kernel
theorem dX3_endDay_24 : decode cX3_endDay 24 = .ok (.invokevirtual 272, 3) := by decide +kernel
theorem dX3_endDay_27 : decode cX3_endDay 27 = .ok (.aload_n 0, 1) := by decide +kernel
theorem dX3_endDay_28 : decode cX3_endDay 28 = .ok (.dup, 1) := by decide +kernel
theorem dX3_endDay_29 : decode cX3_endDay 29 = .ok (.getfield 50, 3) := by decide +kernel
theorem dX3_endDay_32 : decode cX3_endDay 32 = .ok (.iconst 1, 1) := by decide +kernel
theorem dX3_endDay_33 : decode cX3_endDay 33 = .ok (.iadd, 1) := by decide +kernel
theorem dX3_endDay_34 : decode cX3_endDay 34 = .ok (.putfield 50, 3) := by decide +kernel
theorem dX3_endDay_37 : decode cX3_endDay 37 = .ok (.aload_n 0, 1) := by decide +kernel
theorem dX3_endDay_38 : decode cX3_endDay 38 = .ok (.iconst 0, 1) := by decide +kernel
theorem dX3_endDay_39 : decode cX3_endDay 39 = .ok (.putfield 53, 3) := by decide +kernel
theorem dX3_endDay_42 : decode cX3_endDay 42 = .ok (.return_, 1) := by decide +kernel
theorem dX3_areInStacks_0 : decode cX3_areInStacks 0 = .ok (.iload_n 1, 1) := by decide +kernel
theorem dX3_areInStacks_1 : decode cX3_areInStacks 1 = .ok (.invokestatic 144, 3) := by decide +kernel
theorem dX3_areInStacks_4 : decode cX3_areInStacks 4 = .ok (.istore_n 2, 1) := by decide +kernel
theorem dX3_areInStacks_5 : decode cX3_areInStacks 5 = .ok (.iload_n 2, 1) := by decide +kernel
theorem dX3_areInStacks_6 : decode cX3_areInStacks 6 = .ok (.iconst 1, 1) := by decide +kernel
theorem dX3_areInStacks_7 : decode cX3_areInStacks 7 = .ok (.if_icmp .lt 8, 3) := by decide +kernel
theorem dX3_areInStacks_10 : decode cX3_areInStacks 10 = .ok (.iload_n 2, 1) := by decide +kernel
theorem dX3_areInStacks_11 : decode cX3_areInStacks 11 = .ok (.iconst 4, 1) := by decide +kernel
theorem dX3_areInStacks_12 : decode cX3_areInStacks 12 = .ok (.if_icmp .le 5, 3) := by decide +kernel
theorem dX3_areInStacks_15 : decode cX3_areInStacks 15 = .ok (.iconst 0, 1) := by decide +kernel
theorem dX3_areInStacks_16 : decode cX3_areInStacks 16 = .ok (.ireturn, 1) := by decide +kernel
theorem dX3_areInStacks_17 : decode cX3_areInStacks 17 = .ok (.iconst 0, 1) := by decide +kernel
theorem dX3_areInStacks_18 : decode cX3_areInStacks 18 = .ok (.istore_n 3, 1) := by decide +kernel
theorem dX3_areInStacks_19 : decode cX3_areInStacks 19 = .ok (.iload_n 3, 1) := by decide +kernel
theorem dX3_areInStacks_20 : decode cX3_areInStacks 20 = .ok (.bipush 32, 2) := by decide +kernel
theorem dX3_areInStacks_22 : decode cX3_areInStacks 22 = .ok (.if_icmp .ge 31, 3) := by decide +kernel
theorem dX3_areInStacks_25 : decode cX3_areInStacks 25 = .ok (.iload_n 1, 1) := by decide +kernel
theorem dX3_areInStacks_26 : decode cX3_areInStacks 26 = .ok (.iload_n 3, 1) := by decide +kernel
theorem dX3_areInStacks_27 : decode cX3_areInStacks 27 = .ok (.invokestatic 274, 3) := by decide +kernel
theorem dX3_areInStacks_30 : decode cX3_areInStacks 30 = .ok (.ifCond .eq 17, 3) := by decide +kernel
theorem dX3_areInStacks_33 : decode cX3_areInStacks 33 = .ok (.aload_n 0, 1) := by decide +kernel
theorem dX3_areInStacks_34 : decode cX3_areInStacks 34 = .ok (.getfield 10, 3) := by decide +kernel
theorem dX3_areInStacks_37 : decode cX3_areInStacks 37 = .ok (.iload_n 3, 1) := by decide +kernel
theorem dX3_areInStacks_38 : decode cX3_areInStacks 38 = .ok (.invokevirtual 135, 3) := by decide +kernel
theorem dX3_areInStacks_41 : decode cX3_areInStacks 41 = .ok (.iconst (-1), 1) := by decide +kernel
theorem dX3_areInStacks_42 : decode cX3_areInStacks 42 = .ok (.if_icmp .ne 5, 3) := by decide +kernel
theorem dX3_areInStacks_45 : decode cX3_areInStacks 45 = .ok (.iconst 0, 1) := by decide +kernel
theorem dX3_areInStacks_46 : decode cX3_areInStacks 46 = .ok (.ireturn, 1) := by decide +kernel
theorem dX3_areInStacks_47 : decode cX3_areInStacks 47 = .ok (.iinc 3 1, 3) := by decide +kernel
theorem dX3_areInStacks_50 : decode cX3_areInStacks 50 = .ok (.goto (-31), 3) := by decide +kernel
theorem dX3_areInStacks_53 : decode cX3_areInStacks 53 = .ok (.iconst 1, 1) := by decide +kernel
theorem dX3_areInStacks_54 : decode cX3_areInStacks 54 = .ok (.ireturn, 1) := by decide +kernel
theorem dX3_contains_0 : decode cX3_contains 0 = .ok (.iload_n 0, 1) := by decide +kernel
theorem dX3_contains_1 : decode cX3_contains 1 = .ok (.iload_n 1, 1) := by decide +kernel
theorem dX3_contains_2 : decode cX3_contains 2 = .ok (.iushr, 1) := by decide +kernel
theorem dX3_contains_3 : decode cX3_contains 3 = .ok (.iconst 1, 1) := by decide +kernel
theorem dX3_contains_4 : decode cX3_contains 4 = .ok (.iand, 1) := by decide +kernel
theorem dX3_contains_5 : decode cX3_contains 5 = .ok (.iconst 1, 1) := by decide +kernel
theorem dX3_contains_6 : decode cX3_contains 6 = .ok (.if_icmp .ne 7, 3) := by decide +kernel
theorem dX3_contains_9 : decode cX3_contains 9 = .ok (.iconst 1, 1) := by decide +kernel
theorem dX3_contains_10 : decode cX3_contains 10 = .ok (.goto 4, 3) := by decide +kernel
theorem dX3_contains_13 : decode cX3_contains 13 = .ok (.iconst 0, 1) := by decide +kernel
theorem dX3_contains_14 : decode cX3_contains 14 = .ok (.ireturn, 1) := by decide +kernel
theorem dX3_ordersOf_0 : decode cX3_ordersOf 0 = .ok (.iconst 1, 1) := by decide +kernel
theorem dX3_ordersOf_1 : decode cX3_ordersOf 1 = .ok (.istore_n 1, 1) := by decide +kernel
theorem dX3_ordersOf_2 : decode cX3_ordersOf 2 = .ok (.iconst 2, 1) := by decide +kernel
theorem dX3_ordersOf_3 : decode cX3_ordersOf 3 = .ok (.istore_n 2, 1) := by decide +kernel
theorem dX3_ordersOf_4 : decode cX3_ordersOf 4 = .ok (.iload_n 2, 1) := by decide +kernel
theorem dX3_ordersOf_5 : decode cX3_ordersOf 5 = .ok (.iload_n 0, 1) := by decide +kernel
theorem dX3_ordersOf_6 : decode cX3_ordersOf 6 = .ok (.if_icmp .gt 13, 3) := by decide +kernel
theorem dX3_ordersOf_9 : decode cX3_ordersOf 9 = .ok (.iload_n 1, 1) := by decide +kernel
theorem dX3_ordersOf_10 : decode cX3_ordersOf 10 = .ok (.iload_n 2, 1) := by decide +kernel
theorem dX3_ordersOf_11 : decode cX3_ordersOf 11 = .ok (.imul, 1) := by decide +kernel
theorem dX3_ordersOf_12 : decode cX3_ordersOf 12 = .ok (.istore_n 1, 1) := by decide +kernel
theorem dX3_ordersOf_13 : decode cX3_ordersOf 13 = .ok (.iinc 2 1, 3) := by decide +kernel
theorem dX3_ordersOf_16 : decode cX3_ordersOf 16 = .ok (.goto (-12), 3) := by decide +kernel
theorem dX3_ordersOf_19 : decode cX3_ordersOf 19 = .ok (.iload_n 1, 1) := by decide +kernel
theorem dX3_ordersOf_20 : decode cX3_ordersOf 20 = .ok (.ireturn, 1) := by decide +kernel
theorem dX3_liftsInOrder_0 : decode cX3_liftsInOrder 0 = .ok (.aload_n 0, 1) := by decide +kernel
theorem dX3_liftsInOrder_1 : decode cX3_liftsInOrder 1 = .ok (.getfield 16, 3) := by decide +kernel
theorem dX3_liftsInOrder_4 : decode cX3_liftsInOrder 4 = .ok (.aload_n 0, 1) := by decide +kernel
theorem dX3_liftsInOrder_5 : decode cX3_liftsInOrder 5 = .ok (.getfield 10, 3) := by decide +kernel
theorem dX3_liftsInOrder_8 : decode cX3_liftsInOrder 8 = .ok (.invokevirtual 116, 3) := by decide +kernel
theorem dX3_liftsInOrder_11 : decode cX3_liftsInOrder 11 = .ok (.iload_n 1, 1) := by decide +kernel
theorem dX3_liftsInOrder_12 : decode cX3_liftsInOrder 12 = .ok (.istore_n 3, 1) := by decide +kernel
theorem dX3_liftsInOrder_13 : decode cX3_liftsInOrder 13 = .ok (.iload_n 2, 1) := by decide +kernel
theorem dX3_liftsInOrder_14 : decode cX3_liftsInOrder 14 = .ok (.istore 4, 2) := by decide +kernel
theorem dX3_liftsInOrder_16 : decode cX3_liftsInOrder 16 = .ok (.iconst 0, 1) := by decide +kernel
theorem dX3_liftsInOrder_17 : decode cX3_liftsInOrder 17 = .ok (.istore 5, 2) := by decide +kernel
theorem dX3_liftsInOrder_19 : decode cX3_liftsInOrder 19 = .ok (.iload_n 1, 1) := by decide +kernel
theorem dX3_liftsInOrder_20 : decode cX3_liftsInOrder 20 = .ok (.invokestatic 144, 3) := by decide +kernel
theorem dX3_liftsInOrder_23 : decode cX3_liftsInOrder 23 = .ok (.istore 6, 2) := by decide +kernel
theorem dX3_liftsInOrder_25 : decode cX3_liftsInOrder 25 = .ok (.iload 6, 2) := by decide +kernel
theorem dX3_liftsInOrder_27 : decode cX3_liftsInOrder 27 = .ok (.ifCond .le 66, 3) := by decide +kernel
theorem dX3_liftsInOrder_30 : decode cX3_liftsInOrder 30 = .ok (.iload_n 3, 1) := by decide +kernel
theorem dX3_liftsInOrder_31 : decode cX3_liftsInOrder 31 = .ok (.iload 4, 2) := by decide +kernel
theorem dX3_liftsInOrder_33 : decode cX3_liftsInOrder 33 = .ok (.iload 6, 2) := by decide +kernel
theorem dX3_liftsInOrder_35 : decode cX3_liftsInOrder 35 = .ok (.irem, 1) := by decide +kernel
theorem dX3_liftsInOrder_36 : decode cX3_liftsInOrder 36 = .ok (.invokestatic 278, 3) := by decide +kernel
theorem dX3_liftsInOrder_39 : decode cX3_liftsInOrder 39 = .ok (.istore 7, 2) := by decide +kernel
theorem dX3_liftsInOrder_41 : decode cX3_liftsInOrder 41 = .ok (.aload_n 0, 1) := by decide +kernel
theorem dX3_liftsInOrder_42 : decode cX3_liftsInOrder 42 = .ok (.getfield 16, 3) := by decide +kernel
theorem dX3_liftsInOrder_45 : decode cX3_liftsInOrder 45 = .ok (.iload 7, 2) := by decide +kernel
theorem dX3_liftsInOrder_47 : decode cX3_liftsInOrder 47 = .ok (.aload_n 0, 1) := by decide +kernel
theorem dX3_liftsInOrder_48 : decode cX3_liftsInOrder 48 = .ok (.invokevirtual 120, 3) := by decide +kernel
theorem dX3_liftsInOrder_51 : decode cX3_liftsInOrder 51 = .ok (.invokevirtual 124, 3) := by decide +kernel
theorem dX3_liftsInOrder_54 : decode cX3_liftsInOrder 54 = .ok (.istore 8, 2) := by decide +kernel
theorem dX3_liftsInOrder_56 : decode cX3_liftsInOrder 56 = .ok (.iload 8, 2) := by decide +kernel
theorem dX3_liftsInOrder_58 : decode cX3_liftsInOrder 58 = .ok (.iconst (-1), 1) := by decide +kernel
theorem dX3_liftsInOrder_59 : decode cX3_liftsInOrder 59 = .ok (.if_icmp .ne 5, 3) := by decide +kernel
theorem dX3_liftsInOrder_62 : decode cX3_liftsInOrder 62 = .ok (.iconst (-1), 1) := by decide +kernel
theorem dX3_liftsInOrder_63 : decode cX3_liftsInOrder 63 = .ok (.ireturn, 1) := by decide +kernel
theorem dX3_liftsInOrder_64 : decode cX3_liftsInOrder 64 = .ok (.iload 5, 2) := by decide +kernel
theorem dX3_liftsInOrder_66 : decode cX3_liftsInOrder 66 = .ok (.iload 8, 2) := by decide +kernel
theorem dX3_liftsInOrder_68 : decode cX3_liftsInOrder 68 = .ok (.iadd, 1) := by decide +kernel
theorem dX3_liftsInOrder_69 : decode cX3_liftsInOrder 69 = .ok (.istore 5, 2) := by decide +kernel
theorem dX3_liftsInOrder_71 : decode cX3_liftsInOrder 71 = .ok (.iload_n 3, 1) := by decide +kernel
theorem dX3_liftsInOrder_72 : decode cX3_liftsInOrder 72 = .ok (.iconst 1, 1) := by decide +kernel
theorem dX3_liftsInOrder_73 : decode cX3_liftsInOrder 73 = .ok (.iload 7, 2) := by decide +kernel
theorem dX3_liftsInOrder_75 : decode cX3_liftsInOrder 75 = .ok (.ishl, 1) := by decide +kernel
theorem dX3_liftsInOrder_76 : decode cX3_liftsInOrder 76 = .ok (.iconst (-1), 1) := by decide +kernel
theorem dX3_liftsInOrder_77 : decode cX3_liftsInOrder 77 = .ok (.ixor, 1) := by decide +kernel
theorem dX3_liftsInOrder_78 : decode cX3_liftsInOrder 78 = .ok (.iand, 1) := by decide +kernel
theorem dX3_liftsInOrder_79 : decode cX3_liftsInOrder 79 = .ok (.istore_n 3, 1) := by decide +kernel
theorem dX3_liftsInOrder_80 : decode cX3_liftsInOrder 80 = .ok (.iload 4, 2) := by decide +kernel
theorem dX3_liftsInOrder_82 : decode cX3_liftsInOrder 82 = .ok (.iload 6, 2) := by decide +kernel
theorem dX3_liftsInOrder_84 : decode cX3_liftsInOrder 84 = .ok (.idiv, 1) := by decide +kernel
theorem dX3_liftsInOrder_85 : decode cX3_liftsInOrder 85 = .ok (.istore 4, 2) := by decide +kernel
theorem dX3_liftsInOrder_87 : decode cX3_liftsInOrder 87 = .ok (.iinc 6 (-1), 3) := by decide +kernel
theorem dX3_liftsInOrder_90 : decode cX3_liftsInOrder 90 = .ok (.goto (-65), 3) := by decide +kernel
theorem dX3_liftsInOrder_93 : decode cX3_liftsInOrder 93 = .ok (.iload 5, 2) := by decide +kernel
theorem dX3_liftsInOrder_95 : decode cX3_liftsInOrder 95 = .ok (.ireturn, 1) := by decide +kernel
theorem dX3_memberOf_0 : decode cX3_memberOf 0 = .ok (.iconst 0, 1) := by decide +kernel
theorem dX3_memberOf_1 : decode cX3_memberOf 1 = .ok (.istore_n 2, 1) := by decide +kernel
theorem dX3_memberOf_2 : decode cX3_memberOf 2 = .ok (.iconst 0, 1) := by decide +kernel
theorem dX3_memberOf_3 : decode cX3_memberOf 3 = .ok (.istore_n 3, 1) := by decide +kernel
theorem dX3_memberOf_4 : decode cX3_memberOf 4 = .ok (.iload_n 3, 1) := by decide +kernel
theorem dX3_memberOf_5 : decode cX3_memberOf 5 = .ok (.bipush 30, 2) := by decide +kernel
theorem dX3_memberOf_7 : decode cX3_memberOf 7 = .ok (.if_icmp .ge 27, 3) := by decide +kernel
theorem dX3_memberOf_10 : decode cX3_memberOf 10 = .ok (.iload_n 0, 1) := by decide +kernel
theorem dX3_memberOf_11 : decode cX3_memberOf 11 = .ok (.iload_n 3, 1) := by decide +kernel
theorem dX3_memberOf_12 : decode cX3_memberOf 12 = .ok (.invokestatic 274, 3) := by decide +kernel
theorem dX3_memberOf_15 : decode cX3_memberOf 15 = .ok (.ifCond .eq 13, 3) := by decide +kernel
theorem dX3_memberOf_18 : decode cX3_memberOf 18 = .ok (.iload_n 2, 1) := by decide +kernel
theorem dX3_memberOf_19 : decode cX3_memberOf 19 = .ok (.iload_n 1, 1) := by decide +kernel
theorem dX3_memberOf_20 : decode cX3_memberOf 20 = .ok (.if_icmp .ne 5, 3) := by decide +kernel
theorem dX3_memberOf_23 : decode cX3_memberOf 23 = .ok (.iload_n 3, 1) := by decide +kernel
theorem dX3_memberOf_24 : decode cX3_memberOf 24 = .ok (.ireturn, 1) := by decide +kernel
theorem dX3_memberOf_25 : decode cX3_memberOf 25 = .ok (.iinc 2 1, 3) := by decide +kernel
theorem dX3_memberOf_28 : decode cX3_memberOf 28 = .ok (.iinc 3 1, 3) := by decide +kernel
theorem dX3_memberOf_31 : decode cX3_memberOf 31 = .ok (.goto (-27), 3) := by decide +kernel
theorem dX3_memberOf_34 : decode cX3_memberOf 34 = .ok (.iconst (-1), 1) := by decide +kernel
theorem dX3_memberOf_35 : decode cX3_memberOf 35 = .ok (.ireturn, 1) := by decide +kernel
theorem dX4_init_0 : decode cX4_init 0 = .ok (.aload_n 0, 1) := by decide +kernel
theorem dX4_init_1 : decode cX4_init 1 = .ok (.invokespecial 1, 3) := by decide +kernel
theorem dX4_init_4 : decode cX4_init 4 = .ok (.aload_n 0, 1) := by decide +kernel
theorem dX4_init_5 : decode cX4_init 5 = .ok (.bipush 30, 2) := by decide +kernel
theorem dX4_init_7 : decode cX4_init 7 = .ok (.newarray .int, 2) := by decide +kernel
theorem dX4_init_9 : decode cX4_init 9 = .ok (.putfield 7, 3) := by decide +kernel
theorem dX4_init_12 : decode cX4_init 12 = .ok (.aload_n 0, 1) := by decide +kernel
theorem dX4_init_13 : decode cX4_init 13 = .ok (.bipush 6, 2) := by decide +kernel
theorem dX4_init_15 : decode cX4_init 15 = .ok (.newarray .int, 2) := by decide +kernel
theorem dX4_init_17 : decode cX4_init 17 = .ok (.putfield 13, 3) := by decide +kernel
theorem dX4_init_20 : decode cX4_init 20 = .ok (.aload_n 0, 1) := by decide +kernel
theorem dX4_init_21 : decode cX4_init 21 = .ok (.bipush 30, 2) := by decide +kernel
theorem dX4_init_23 : decode cX4_init 23 = .ok (.newarray .int, 2) := by decide +kernel
theorem dX4_init_25 : decode cX4_init 25 = .ok (.putfield 16, 3) := by decide +kernel
theorem dX4_init_28 : decode cX4_init 28 = .ok (.aload_n 0, 1) := by decide +kernel
theorem dX4_init_29 : decode cX4_init 29 = .ok (.bipush 30, 2) := by decide +kernel
theorem dX4_init_31 : decode cX4_init 31 = .ok (.newarray .int, 2) := by decide +kernel
theorem dX4_init_33 : decode cX4_init 33 = .ok (.putfield 19, 3) := by decide +kernel
theorem dX4_init_36 : decode cX4_init 36 = .ok (.aload_n 0, 1) := by decide +kernel
theorem dX4_init_37 : decode cX4_init 37 = .ok (.iconst (-1), 1) := by decide +kernel
theorem dX4_init_38 : decode cX4_init 38 = .ok (.putfield 22, 3) := by decide +kernel
theorem dX4_init_41 : decode cX4_init 41 = .ok (.aload_n 0, 1) := by decide +kernel
theorem dX4_init_42 : decode cX4_init 42 = .ok (.bipush 30, 2) := by decide +kernel
theorem dX4_init_44 : decode cX4_init 44 = .ok (.newarray .int, 2) := by decide +kernel
theorem dX4_init_46 : decode cX4_init 46 = .ok (.putfield 26, 3) := by decide +kernel
theorem dX4_init_49 : decode cX4_init 49 = .ok (.aload_n 0, 1) := by decide +kernel
theorem dX4_init_50 : decode cX4_init 50 = .ok (.bipush 6, 2) := by decide +kernel
theorem dX4_init_52 : decode cX4_init 52 = .ok (.newarray .int, 2) := by decide +kernel
theorem dX4_init_54 : decode cX4_init 54 = .ok (.putfield 29, 3) := by decide +kernel
theorem dX4_init_57 : decode cX4_init 57 = .ok (.aload_n 0, 1) := by decide +kernel
theorem dX4_init_58 : decode cX4_init 58 = .ok (.bipush 32, 2) := by decide +kernel
theorem dX4_init_60 : decode cX4_init 60 = .ok (.newarray .int, 2) := by decide +kernel
theorem dX4_init_62 : decode cX4_init 62 = .ok (.putfield 32, 3) := by decide +kernel
theorem dX4_init_65 : decode cX4_init 65 = .ok (.aload_n 0, 1) := by decide +kernel
theorem dX4_init_66 : decode cX4_init 66 = .ok (.bipush 8, 2) := by decide +kernel
theorem dX4_init_68 : decode cX4_init 68 = .ok (.newarray .boolean, 2) := by decide +kernel
theorem dX4_init_70 : decode cX4_init 70 = .ok (.putfield 35, 3) := by decide +kernel
theorem dX4_init_73 : decode cX4_init 73 = .ok (.aload_n 0, 1) := by decide +kernel
theorem dX4_init_74 : decode cX4_init 74 = .ok (.bipush 20, 2) := by decide +kernel
theorem dX4_init_76 : decode cX4_init 76 = .ok (.newarray .int, 2) := by decide +kernel
theorem dX4_init_78 : decode cX4_init 78 = .ok (.putfield 39, 3) := by decide +kernel
theorem dX4_init_81 : decode cX4_init 81 = .ok (.aload_n 0, 1) := by decide +kernel
theorem dX4_init_82 : decode cX4_init 82 = .ok (.bipush 20, 2) := by decide +kernel
theorem dX4_init_84 : decode cX4_init 84 = .ok (.newarray .int, 2) := by decide +kernel
theorem dX4_init_86 : decode cX4_init 86 = .ok (.putfield 42, 3) := by decide +kernel
theorem dX4_init_89 : decode cX4_init 89 = .ok (.aload_n 0, 1) := by decide +kernel
theorem dX4_init_90 : decode cX4_init 90 = .ok (.bipush 20, 2) := by decide +kernel
theorem dX4_init_92 : decode cX4_init 92 = .ok (.newarray .int, 2) := by decide +kernel
theorem dX4_init_94 : decode cX4_init 94 = .ok (.putfield 45, 3) := by decide +kernel
theorem dX4_init_97 : decode cX4_init 97 = .ok (.aload_n 0, 1) := by decide +kernel
theorem dX4_init_98 : decode cX4_init 98 = .ok (.bipush 20, 2) := by decide +kernel
theorem dX4_init_100 : decode cX4_init 100 = .ok (.newarray .int, 2) := by decide +kernel
theorem dX4_init_102 : decode cX4_init 102 = .ok (.putfield 48, 3) := by decide +kernel
theorem dX4_init_105 : decode cX4_init 105 = .ok (.aload_n 0, 1) := by decide +kernel
theorem dX4_init_106 : decode cX4_init 106 = .ok (.bipush 80, 2) := by decide +kernel
theorem dX4_init_108 : decode cX4_init 108 = .ok (.newarray .int, 2) := by decide +kernel
theorem dX4_init_110 : decode cX4_init 110 = .ok (.putfield 51, 3) := by decide +kernel
theorem dX4_init_113 : decode cX4_init 113 = .ok (.return_, 1) := by decide +kernel
theorem dX4_thrown_0 : decode cX4_thrown 0 = .ok (.aload_n 0, 1) := by decide +kernel
theorem dX4_thrown_1 : decode cX4_thrown 1 = .ok (.getfield 54, 3) := by decide +kernel
theorem dX4_thrown_4 : decode cX4_thrown 4 = .ok (.ireturn, 1) := by decide +kernel
theorem dX4_goesWell_0 : decode cX4_goesWell 0 = .ok (.aload_n 0, 1) := by decide +kernel
theorem dX4_goesWell_1 : decode cX4_goesWell 1 = .ok (.iload_n 1, 1) := by decide +kernel
theorem dX4_goesWell_2 : decode cX4_goesWell 2 = .ok (.putfield 54, 3) := by decide +kernel
theorem dX4_goesWell_5 : decode cX4_goesWell 5 = .ok (.iload_n 1, 1) := by decide +kernel
theorem dX4_goesWell_6 : decode cX4_goesWell 6 = .ok (.ifCond .ne 7, 3) := by decide +kernel
theorem dX4_goesWell_9 : decode cX4_goesWell 9 = .ok (.iconst 1, 1) := by decide +kernel
theorem dX4_goesWell_10 : decode cX4_goesWell 10 = .ok (.goto 4, 3) := by decide +kernel
theorem dX4_goesWell_13 : decode cX4_goesWell 13 = .ok (.iconst 0, 1) := by decide +kernel
theorem dX4_goesWell_14 : decode cX4_goesWell 14 = .ok (.ireturn, 1) := by decide +kernel
theorem dX4_in_0 : decode cX4_in 0 = .ok (.iload_n 0, 1) := by decide +kernel
theorem dX4_in_1 : decode cX4_in 1 = .ok (.iload_n 1, 1) := by decide +kernel
theorem dX4_in_2 : decode cX4_in 2 = .ok (.if_icmp .lt 12, 3) := by decide +kernel
theorem dX4_in_5 : decode cX4_in 5 = .ok (.iload_n 0, 1) := by decide +kernel
theorem dX4_in_6 : decode cX4_in 6 = .ok (.iload_n 2, 1) := by decide +kernel
theorem dX4_in_7 : decode cX4_in 7 = .ok (.if_icmp .gt 7, 3) := by decide +kernel
theorem dX4_in_10 : decode cX4_in 10 = .ok (.iconst 1, 1) := by decide +kernel
theorem dX4_in_11 : decode cX4_in 11 = .ok (.goto 4, 3) := by decide +kernel
theorem dX4_in_14 : decode cX4_in 14 = .ok (.iconst 0, 1) := by decide +kernel
theorem dX4_in_15 : decode cX4_in 15 = .ok (.ireturn, 1) := by decide +kernel
theorem dX4_isStack_0 : decode cX4_isStack 0 = .ok (.iload_n 0, 1) := by decide +kernel
theorem dX4_isStack_1 : decode cX4_isStack 1 = .ok (.iconst 0, 1) := by decide +kernel
theorem dX4_isStack_2 : decode cX4_isStack 2 = .ok (.iconst 5, 1) := by decide +kernel
theorem dX4_isStack_3 : decode cX4_isStack 3 = .ok (.invokestatic 57, 3) := by decide +kernel
theorem dX4_isStack_6 : decode cX4_isStack 6 = .ok (.ireturn, 1) := by decide +kernel
theorem dX4_isCrate_0 : decode cX4_isCrate 0 = .ok (.iload_n 1, 1) := by decide +kernel
theorem dX4_isCrate_1 : decode cX4_isCrate 1 = .ok (.iconst 0, 1) := by decide +kernel
theorem dX4_isCrate_2 : decode cX4_isCrate 2 = .ok (.aload_n 0, 1) := by decide +kernel
theorem dX4_isCrate_3 : decode cX4_isCrate 3 = .ok (.getfield 61, 3) := by decide +kernel
theorem dX4_isCrate_6 : decode cX4_isCrate 6 = .ok (.iconst 1, 1) := by decide +kernel
theorem dX4_isCrate_7 : decode cX4_isCrate 7 = .ok (.isub, 1) := by decide +kernel
theorem dX4_isCrate_8 : decode cX4_isCrate 8 = .ok (.invokestatic 57, 3) := by decide +kernel
theorem dX4_isCrate_11 : decode cX4_isCrate 11 = .ok (.ireturn, 1) := by decide +kernel
theorem dX4_isHaul_0 : decode cX4_isHaul 0 = .ok (.iload_n 1, 1) := by decide +kernel
theorem dX4_isHaul_1 : decode cX4_isHaul 1 = .ok (.iconst 0, 1) := by decide +kernel
theorem dX4_isHaul_2 : decode cX4_isHaul 2 = .ok (.aload_n 0, 1) := by decide +kernel
theorem dX4_isHaul_3 : decode cX4_isHaul 3 = .ok (.getfield 64, 3) := by decide +kernel
theorem dX4_isHaul_6 : decode cX4_isHaul 6 = .ok (.iconst 1, 1) := by decide +kernel
theorem dX4_isHaul_7 : decode cX4_isHaul 7 = .ok (.isub, 1) := by decide +kernel
theorem dX4_isHaul_8 : decode cX4_isHaul 8 = .ok (.invokestatic 57, 3) := by decide +kernel
theorem dX4_isHaul_11 : decode cX4_isHaul 11 = .ok (.ireturn, 1) := by decide +kernel
theorem dX4_most_0 : decode cX4_most 0 = .ok (.aload_n 0, 1) := by decide +kernel
theorem dX4_most_1 : decode cX4_most 1 = .ok (.getfield 67, 3) := by decide +kernel
theorem dX4_most_4 : decode cX4_most 4 = .ok (.ifCond .eq 7, 3) := by decide +kernel
theorem dX4_most_7 : decode cX4_most 7 = .ok (.iconst 3, 1) := by decide +kernel
theorem dX4_most_8 : decode cX4_most 8 = .ok (.goto 4, 3) := by decide +kernel
theorem dX4_most_11 : decode cX4_most 11 = .ok (.iconst 5, 1) := by decide +kernel
theorem dX4_most_12 : decode cX4_most 12 = .ok (.ireturn, 1) := by decide +kernel
theorem dX4_canPut_0 : decode cX4_canPut 0 = .ok (.aload_n 0, 1) := by decide +kernel
theorem dX4_canPut_1 : decode cX4_canPut 1 = .ok (.getfield 13, 3) := by decide +kernel
theorem dX4_canPut_4 : decode cX4_canPut 4 = .ok (.iload_n 2, 1) := by decide +kernel
theorem dX4_canPut_5 : decode cX4_canPut 5 = .ok (.iaload, 1) := by decide +kernel
theorem dX4_canPut_6 : decode cX4_canPut 6 = .ok (.istore_n 3, 1) := by decide +kernel
theorem dX4_canPut_7 : decode cX4_canPut 7 = .ok (.iload_n 3, 1) := by decide +kernel
theorem dX4_canPut_8 : decode cX4_canPut 8 = .ok (.aload_n 0, 1) := by decide +kernel
theorem dX4_canPut_9 : decode cX4_canPut 9 = .ok (.invokevirtual 71, 3) := by decide +kernel
theorem dX4_canPut_12 : decode cX4_canPut 12 = .ok (.if_icmp .ge 32, 3) := by decide +kernel
theorem dX4_canPut_15 : decode cX4_canPut 15 = .ok (.iload_n 3, 1) := by decide +kernel
theorem dX4_canPut_16 : decode cX4_canPut 16 = .ok (.ifCond .eq 24, 3) := by decide +kernel
theorem dX4_canPut_19 : decode cX4_canPut 19 = .ok (.aload_n 0, 1) := by decide +kernel
theorem dX4_canPut_20 : decode cX4_canPut 20 = .ok (.getfield 16, 3) := by decide +kernel
theorem dX4_canPut_23 : decode cX4_canPut 23 = .ok (.aload_n 0, 1) := by decide +kernel
theorem dX4_canPut_24 : decode cX4_canPut 24 = .ok (.getfield 7, 3) := by decide +kernel
theorem dX4_canPut_27 : decode cX4_canPut 27 = .ok (.iconst 5, 1) := by decide +kernel
theorem dX4_canPut_28 : decode cX4_canPut 28 = .ok (.iload_n 2, 1) := by decide +kernel
theorem dX4_canPut_29 : decode cX4_canPut 29 = .ok (.imul, 1) := by decide +kernel
theorem dX4_canPut_30 : decode cX4_canPut 30 = .ok (.iload_n 3, 1) := by decide +kernel
theorem dX4_canPut_31 : decode cX4_canPut 31 = .ok (.iadd, 1) := by decide +kernel
theorem dX4_canPut_32 : decode cX4_canPut 32 = .ok (.iconst 1, 1) := by decide +kernel
theorem dX4_canPut_33 : decode cX4_canPut 33 = .ok (.isub, 1) := by decide +kernel
theorem dX4_canPut_34 : decode cX4_canPut 34 = .ok (.iaload, 1) := by decide +kernel
theorem dX4_canPut_35 : decode cX4_canPut 35 = .ok (.iaload, 1) := by decide +kernel
theorem dX4_canPut_36 : decode cX4_canPut 36 = .ok (.iload_n 1, 1) := by decide +kernel
theorem dX4_canPut_37 : decode cX4_canPut 37 = .ok (.if_icmp .lt 7, 3) := by decide +kernel
theorem dX4_canPut_40 : decode cX4_canPut 40 = .ok (.iconst 1, 1) := by decide +kernel
theorem dX4_canPut_41 : decode cX4_canPut 41 = .ok (.goto 4, 3) := by decide +kernel
theorem dX4_canPut_44 : decode cX4_canPut 44 = .ok (.iconst 0, 1) := by decide +kernel
theorem dX4_canPut_45 : decode cX4_canPut 45 = .ok (.ireturn, 1) := by decide +kernel
theorem dX4_put_0 : decode cX4_put 0 = .ok (.aload_n 0, 1) := by decide +kernel
theorem dX4_put_1 : decode cX4_put 1 = .ok (.getfield 7, 3) := by decide +kernel
theorem dX4_put_4 : decode cX4_put 4 = .ok (.iconst 5, 1) := by decide +kernel
theorem dX4_put_5 : decode cX4_put 5 = .ok (.iload_n 2, 1) := by decide +kernel
theorem dX4_put_6 : decode cX4_put 6 = .ok (.imul, 1) := by decide +kernel
theorem dX4_put_7 : decode cX4_put 7 = .ok (.aload_n 0, 1) := by decide +kernel
theorem dX4_put_8 : decode cX4_put 8 = .ok (.getfield 13, 3) := by decide +kernel
theorem dX4_put_11 : decode cX4_put 11 = .ok (.iload_n 2, 1) := by decide +kernel
theorem dX4_put_12 : decode cX4_put 12 = .ok (.iaload, 1) := by decide +kernel
theorem dX4_put_13 : decode cX4_put 13 = .ok (.iadd, 1) := by decide +kernel
theorem dX4_put_14 : decode cX4_put 14 = .ok (.iload_n 1, 1) := by decide +kernel
theorem dX4_put_15 : decode cX4_put 15 = .ok (.iastore, 1) := by decide +kernel
theorem dX4_put_16 : decode cX4_put 16 = .ok (.aload_n 0, 1) := by decide +kernel
theorem dX4_put_17 : decode cX4_put 17 = .ok (.getfield 13, 3) := by decide +kernel
theorem dX4_put_20 : decode cX4_put 20 = .ok (.iload_n 2, 1) := by decide +kernel
theorem dX4_put_21 : decode cX4_put 21 = .ok (.dup2, 1) := by decide +kernel
theorem dX4_put_22 : decode cX4_put 22 = .ok (.iaload, 1) := by decide +kernel
theorem dX4_put_23 : decode cX4_put 23 = .ok (.iconst 1, 1) := by decide +kernel
theorem dX4_put_24 : decode cX4_put 24 = .ok (.iadd, 1) := by decide +kernel
theorem dX4_put_25 : decode cX4_put 25 = .ok (.iastore, 1) := by decide +kernel
theorem dX4_put_26 : decode cX4_put 26 = .ok (.return_, 1) := by decide +kernel
theorem dX4_topOf_0 : decode cX4_topOf 0 = .ok (.aload_n 0, 1) := by decide +kernel
theorem dX4_topOf_1 : decode cX4_topOf 1 = .ok (.getfield 7, 3) := by decide +kernel
theorem dX4_topOf_4 : decode cX4_topOf 4 = .ok (.iconst 5, 1) := by decide +kernel
theorem dX4_topOf_5 : decode cX4_topOf 5 = .ok (.iload_n 1, 1) := by decide +kernel
theorem dX4_topOf_6 : decode cX4_topOf 6 = .ok (.imul, 1) := by decide +kernel
theorem dX4_topOf_7 : decode cX4_topOf 7 = .ok (.aload_n 0, 1) := by decide +kernel
theorem dX4_topOf_8 : decode cX4_topOf 8 = .ok (.getfield 13, 3) := by decide +kernel
theorem dX4_topOf_11 : decode cX4_topOf 11 = .ok (.iload_n 1, 1) := by decide +kernel
theorem dX4_topOf_12 : decode cX4_topOf 12 = .ok (.iaload, 1) := by decide +kernel
theorem dX4_topOf_13 : decode cX4_topOf 13 = .ok (.iadd, 1) := by decide +kernel
theorem dX4_topOf_14 : decode cX4_topOf 14 = .ok (.iconst 1, 1) := by decide +kernel
theorem dX4_topOf_15 : decode cX4_topOf 15 = .ok (.isub, 1) := by decide +kernel
theorem dX4_topOf_16 : decode cX4_topOf 16 = .ok (.iaload, 1) := by decide +kernel
theorem dX4_topOf_17 : decode cX4_topOf 17 = .ok (.ireturn, 1) := by decide +kernel
theorem dX4_isOnLids_0 : decode cX4_isOnLids 0 = .ok (.iload_n 2, 1) := by decide +kernel
theorem dX4_isOnLids_1 : decode cX4_isOnLids 1 = .ok (.istore_n 3, 1) := by decide +kernel
theorem dX4_isOnLids_2 : decode cX4_isOnLids 2 = .ok (.iconst 1, 1) := by decide +kernel
theorem dX4_isOnLids_3 : decode cX4_isOnLids 3 = .ok (.istore 4, 2) := by decide +kernel
theorem dX4_isOnLids_5 : decode cX4_isOnLids 5 = .ok (.iconst 0, 1) := by decide +kernel
theorem dX4_isOnLids_6 : decode cX4_isOnLids 6 = .ok (.istore 5, 2) := by decide +kernel
theorem dX4_isOnLids_8 : decode cX4_isOnLids 8 = .ok (.iload 5, 2) := by decide +kernel
theorem dX4_isOnLids_10 : decode cX4_isOnLids 10 = .ok (.iconst 4, 1) := by decide +kernel
theorem dX4_isOnLids_11 : decode cX4_isOnLids 11 = .ok (.if_icmp .ge 108, 3) := by decide +kernel
theorem dX4_isOnLids_14 : decode cX4_isOnLids 14 = .ok (.aload_n 0, 1) := by decide +kernel
theorem dX4_isOnLids_15 : decode cX4_isOnLids 15 = .ok (.getfield 32, 3) := by decide +kernel
theorem dX4_isOnLids_18 : decode cX4_isOnLids 18 = .ok (.iconst 4, 1) := by decide +kernel
theorem dX4_isOnLids_19 : decode cX4_isOnLids 19 = .ok (.iload_n 1, 1) := by decide +kernel
theorem dX4_isOnLids_20 : decode cX4_isOnLids 20 = .ok (.imul, 1) := by decide +kernel
theorem dX4_isOnLids_21 : decode cX4_isOnLids 21 = .ok (.iload 5, 2) := by decide +kernel
theorem dX4_isOnLids_23 : decode cX4_isOnLids 23 = .ok (.iadd, 1) := by decide +kernel
theorem dX4_isOnLids_24 : decode cX4_isOnLids 24 = .ok (.iaload, 1) := by decide +kernel
theorem dX4_isOnLids_25 : decode cX4_isOnLids 25 = .ok (.iconst (-1), 1) := by decide +kernel
theorem dX4_isOnLids_26 : decode cX4_isOnLids 26 = .ok (.if_icmp .eq 93, 3) := by decide +kernel
theorem dX4_isOnLids_29 : decode cX4_isOnLids 29 = .ok (.iload_n 3, 1) := by decide +kernel
theorem dX4_isOnLids_30 : decode cX4_isOnLids 30 = .ok (.bipush 6, 2) := by decide +kernel
theorem dX4_isOnLids_32 : decode cX4_isOnLids 32 = .ok (.if_icmp .ge 18, 3) := by decide +kernel
theorem dX4_isOnLids_35 : decode cX4_isOnLids 35 = .ok (.aload_n 0, 1) := by decide +kernel
theorem dX4_isOnLids_36 : decode cX4_isOnLids 36 = .ok (.getfield 13, 3) := by decide +kernel
theorem dX4_isOnLids_39 : decode cX4_isOnLids 39 = .ok (.iload_n 3, 1) := by decide +kernel
theorem dX4_isOnLids_40 : decode cX4_isOnLids 40 = .ok (.iaload, 1) := by decide +kernel
theorem dX4_isOnLids_41 : decode cX4_isOnLids 41 = .ok (.ifCond .ne 9, 3) := by decide +kernel
theorem dX4_isOnLids_44 : decode cX4_isOnLids 44 = .ok (.iinc 3 1, 3) := by decide +kernel
theorem dX4_isOnLids_47 : decode cX4_isOnLids 47 = .ok (.goto (-18), 3) := by decide +kernel
theorem dX4_isOnLids_50 : decode cX4_isOnLids 50 = .ok (.iload 4, 2) := by decide +kernel
theorem dX4_isOnLids_52 : decode cX4_isOnLids 52 = .ok (.ifCond .eq 37, 3) := by decide +kernel
theorem dX4_isOnLids_55 : decode cX4_isOnLids 55 = .ok (.iload_n 3, 1) := by decide +kernel
theorem dX4_isOnLids_56 : decode cX4_isOnLids 56 = .ok (.bipush 6, 2) := by decide +kernel
theorem dX4_isOnLids_58 : decode cX4_isOnLids 58 = .ok (.if_icmp .ge 31, 3) := by decide +kernel
theorem dX4_isOnLids_61 : decode cX4_isOnLids 61 = .ok (.aload_n 0, 1) := by decide +kernel
theorem dX4_isOnLids_62 : decode cX4_isOnLids 62 = .ok (.getfield 19, 3) := by decide +kernel
theorem dX4_isOnLids_65 : decode cX4_isOnLids 65 = .ok (.aload_n 0, 1) := by decide +kernel
theorem dX4_isOnLids_66 : decode cX4_isOnLids 66 = .ok (.iload_n 3, 1) := by decide +kernel
theorem dX4_isOnLids_67 : decode cX4_isOnLids 67 = .ok (.invokevirtual 75, 3) := by decide +kernel
theorem dX4_isOnLids_70 : decode cX4_isOnLids 70 = .ok (.iaload, 1) := by decide +kernel
theorem dX4_isOnLids_71 : decode cX4_isOnLids 71 = .ok (.aload_n 0, 1) := by decide +kernel
theorem dX4_isOnLids_72 : decode cX4_isOnLids 72 = .ok (.getfield 32, 3) := by decide +kernel
theorem dX4_isOnLids_75 : decode cX4_isOnLids 75 = .ok (.iconst 4, 1) := by decide +kernel
theorem dX4_isOnLids_76 : decode cX4_isOnLids 76 = .ok (.iload_n 1, 1) := by decide +kernel
theorem dX4_isOnLids_77 : decode cX4_isOnLids 77 = .ok (.imul, 1) := by decide +kernel
theorem dX4_isOnLids_78 : decode cX4_isOnLids 78 = .ok (.iload 5, 2) := by decide +kernel
theorem dX4_isOnLids_80 : decode cX4_isOnLids 80 = .ok (.iadd, 1) := by decide +kernel
theorem dX4_isOnLids_81 : decode cX4_isOnLids 81 = .ok (.iaload, 1) := by decide +kernel
theorem dX4_isOnLids_82 : decode cX4_isOnLids 82 = .ok (.if_icmp .ne 7, 3) := by decide +kernel
theorem dX4_isOnLids_85 : decode cX4_isOnLids 85 = .ok (.iconst 1, 1) := by decide +kernel
theorem dX4_isOnLids_86 : decode cX4_isOnLids 86 = .ok (.goto 4, 3) := by decide +kernel
theorem dX4_isOnLids_89 : decode cX4_isOnLids 89 = .ok (.iconst 0, 1) := by decide +kernel
theorem dX4_isOnLids_90 : decode cX4_isOnLids 90 = .ok (.istore 4, 2) := by decide +kernel
theorem dX4_isOnLids_92 : decode cX4_isOnLids 92 = .ok (.iload_n 3, 1) := by decide +kernel
theorem dX4_isOnLids_93 : decode cX4_isOnLids 93 = .ok (.iload_n 3, 1) := by decide +kernel
theorem dX4_isOnLids_94 : decode cX4_isOnLids 94 = .ok (.bipush 6, 2) := by decide +kernel
theorem dX4_isOnLids_96 : decode cX4_isOnLids 96 = .ok (.if_icmp .ge 7, 3) := by decide +kernel
theorem dX4_isOnLids_99 : decode cX4_isOnLids 99 = .ok (.iconst 1, 1) := by decide +kernel
theorem dX4_isOnLids_100 : decode cX4_isOnLids 100 = .ok (.goto 4, 3) := by decide +kernel
theorem dX4_isOnLids_103 : decode cX4_isOnLids 103 = .ok (.iconst 0, 1) := by decide +kernel
theorem dX4_isOnLids_104 : decode cX4_isOnLids 104 = .ok (.iadd, 1) := by decide +kernel
theorem dX4_isOnLids_105 : decode cX4_isOnLids 105 = .ok (.istore_n 3, 1) := by decide +kernel
theorem dX4_isOnLids_106 : decode cX4_isOnLids 106 = .ok (.iload 4, 2) := by decide +kernel
theorem dX4_isOnLids_108 : decode cX4_isOnLids 108 = .ok (.ifCond .ne 5, 3) := by decide +kernel
theorem dX4_isOnLids_111 : decode cX4_isOnLids 111 = .ok (.iconst 0, 1) := by decide +kernel
theorem dX4_isOnLids_112 : decode cX4_isOnLids 112 = .ok (.ireturn, 1) := by decide +kernel
theorem dX4_isOnLids_113 : decode cX4_isOnLids 113 = .ok (.iinc 5 1, 3) := by decide +kernel
theorem dX4_isOnLids_116 : decode cX4_isOnLids 116 = .ok (.goto (-108), 3) := by decide +kernel
theorem dX4_isOnLids_119 : decode cX4_isOnLids 119 = .ok (.iload 4, 2) := by decide +kernel
theorem dX4_isOnLids_121 : decode cX4_isOnLids 121 = .ok (.ireturn, 1) := by decide +kernel
theorem dX4_sizeOf_0 : decode cX4_sizeOf 0 = .ok (.aload_n 0, 1) := by decide +kernel
theorem dX4_sizeOf_1 : decode cX4_sizeOf 1 = .ok (.getfield 32, 3) := by decide +kernel
theorem dX4_sizeOf_4 : decode cX4_sizeOf 4 = .ok (.iconst 4, 1) := by decide +kernel
theorem dX4_sizeOf_5 : decode cX4_sizeOf 5 = .ok (.iload_n 1, 1) := by decide +kernel
theorem dX4_sizeOf_6 : decode cX4_sizeOf 6 = .ok (.imul, 1) := by decide +kernel
theorem dX4_sizeOf_7 : decode cX4_sizeOf 7 = .ok (.iconst 2, 1) := by decide +kernel
theorem dX4_sizeOf_8 : decode cX4_sizeOf 8 = .ok (.iadd, 1) := by decide +kernel
theorem dX4_sizeOf_9 : decode cX4_sizeOf 9 = .ok (.iaload, 1) := by decide +kernel
theorem dX4_sizeOf_10 : decode cX4_sizeOf 10 = .ok (.iconst (-1), 1) := by decide +kernel
theorem dX4_sizeOf_11 : decode cX4_sizeOf 11 = .ok (.if_icmp .ne 7, 3) := by decide +kernel
theorem dX4_sizeOf_14 : decode cX4_sizeOf 14 = .ok (.iconst 2, 1) := by decide +kernel
theorem dX4_sizeOf_15 : decode cX4_sizeOf 15 = .ok (.goto 22, 3) := by decide +kernel
theorem dX4_sizeOf_18 : decode cX4_sizeOf 18 = .ok (.aload_n 0, 1) := by decide +kernel
theorem dX4_sizeOf_19 : decode cX4_sizeOf 19 = .ok (.getfield 32, 3) := by decide +kernel
theorem dX4_sizeOf_22 : decode cX4_sizeOf 22 = .ok (.iconst 4, 1) := by decide +kernel
theorem dX4_sizeOf_23 : decode cX4_sizeOf 23 = .ok (.iload_n 1, 1) := by decide +kernel
theorem dX4_sizeOf_24 : decode cX4_sizeOf 24 = .ok (.imul, 1) := by decide +kernel
theorem dX4_sizeOf_25 : decode cX4_sizeOf 25 = .ok (.iconst 3, 1) := by decide +kernel
theorem dX4_sizeOf_26 : decode cX4_sizeOf 26 = .ok (.iadd, 1) := by decide +kernel
theorem dX4_sizeOf_27 : decode cX4_sizeOf 27 = .ok (.iaload, 1) := by decide +kernel
theorem dX4_sizeOf_28 : decode cX4_sizeOf 28 = .ok (.iconst (-1), 1) := by decide +kernel
theorem dX4_sizeOf_29 : decode cX4_sizeOf 29 = .ok (.if_icmp .ne 7, 3) := by decide +kernel
theorem dX4_sizeOf_32 : decode cX4_sizeOf 32 = .ok (.iconst 3, 1) := by decide +kernel
theorem dX4_sizeOf_33 : decode cX4_sizeOf 33 = .ok (.goto 4, 3) := by decide +kernel
theorem dX4_sizeOf_36 : decode cX4_sizeOf 36 = .ok (.iconst 4, 1) := by decide +kernel
theorem dX4_sizeOf_37 : decode cX4_sizeOf 37 = .ok (.ireturn, 1) := by decide +kernel
theorem dX4_payWords_0 : decode cX4_payWords 0 = .ok (.iconst 0, 1) := by decide +kernel
theorem dX4_payWords_1 : decode cX4_payWords 1 = .ok (.istore_n 1, 1) := by decide +kernel
theorem dX4_payWords_2 : decode cX4_payWords 2 = .ok (.iload_n 1, 1) := by decide +kernel
theorem dX4_payWords_3 : decode cX4_payWords 3 = .ok (.aload_n 0, 1) := by decide +kernel
theorem dX4_payWords_4 : decode cX4_payWords 4 = .ok (.getfield 79, 3) := by decide +kernel
theorem dX4_payWords_7 : decode cX4_payWords 7 = .ok (.if_icmp .ge 90, 3) := by decide +kernel
theorem dX4_payWords_10 : decode cX4_payWords 10 = .ok (.iconst 0, 1) := by decide +kernel
theorem dX4_payWords_11 : decode cX4_payWords 11 = .ok (.istore_n 2, 1) := by decide +kernel
theorem dX4_payWords_12 : decode cX4_payWords 12 = .ok (.iconst 0, 1) := by decide +kernel
theorem dX4_payWords_13 : decode cX4_payWords 13 = .ok (.istore_n 3, 1) := by decide +kernel
theorem dX4_payWords_14 : decode cX4_payWords 14 = .ok (.iload_n 3, 1) := by decide +kernel
theorem dX4_payWords_15 : decode cX4_payWords 15 = .ok (.bipush 6, 2) := by decide +kernel
theorem dX4_payWords_17 : decode cX4_payWords 17 = .ok (.if_icmp .ge 37, 3) := by decide +kernel
theorem dX4_payWords_20 : decode cX4_payWords 20 = .ok (.iload_n 2, 1) := by decide +kernel
theorem dX4_payWords_21 : decode cX4_payWords 21 = .ok (.ifCond .ne 21, 3) := by decide +kernel
theorem dX4_payWords_24 : decode cX4_payWords 24 = .ok (.aload_n 0, 1) := by decide +kernel
theorem dX4_payWords_25 : decode cX4_payWords 25 = .ok (.getfield 13, 3) := by decide +kernel
theorem dX4_payWords_28 : decode cX4_payWords 28 = .ok (.iload_n 3, 1) := by decide +kernel
theorem dX4_payWords_29 : decode cX4_payWords 29 = .ok (.iaload, 1) := by decide +kernel
theorem dX4_payWords_30 : decode cX4_payWords 30 = .ok (.ifCond .le 16, 3) := by decide +kernel
theorem dX4_payWords_33 : decode cX4_payWords 33 = .ok (.aload_n 0, 1) := by decide +kernel
theorem dX4_payWords_34 : decode cX4_payWords 34 = .ok (.iload_n 1, 1) := by decide +kernel
theorem dX4_payWords_35 : decode cX4_payWords 35 = .ok (.iload_n 3, 1) := by decide +kernel
theorem dX4_payWords_36 : decode cX4_payWords 36 = .ok (.invokevirtual 82, 3) := by decide +kernel
theorem dX4_payWords_39 : decode cX4_payWords 39 = .ok (.ifCond .eq 7, 3) := by decide +kernel
theorem dX4_payWords_42 : decode cX4_payWords 42 = .ok (.iconst 1, 1) := by decide +kernel
theorem dX4_payWords_43 : decode cX4_payWords 43 = .ok (.goto 4, 3) := by decide +kernel
theorem dX4_payWords_46 : decode cX4_payWords 46 = .ok (.iconst 0, 1) := by decide +kernel
theorem dX4_payWords_47 : decode cX4_payWords 47 = .ok (.istore_n 2, 1) := by decide +kernel
theorem dX4_payWords_48 : decode cX4_payWords 48 = .ok (.iinc 3 1, 3) := by decide +kernel
theorem dX4_payWords_51 : decode cX4_payWords 51 = .ok (.goto (-37), 3) := by decide +kernel
theorem dX4_payWords_54 : decode cX4_payWords 54 = .ok (.iload_n 2, 1) := by decide +kernel
theorem dX4_payWords_55 : decode cX4_payWords 55 = .ok (.ifCond .eq 36, 3) := by decide +kernel
theorem dX4_payWords_58 : decode cX4_payWords 58 = .ok (.aload_n 0, 1) := by decide +kernel
theorem dX4_payWords_59 : decode cX4_payWords 59 = .ok (.getfield 35, 3) := by decide +kernel
theorem dX4_payWords_62 : decode cX4_payWords 62 = .ok (.iload_n 1, 1) := by decide +kernel
theorem dX4_payWords_63 : decode cX4_payWords 63 = .ok (.baload, 1) := by decide +kernel
theorem dX4_payWords_64 : decode cX4_payWords 64 = .ok (.ifCond .ne 27, 3) := by decide +kernel
theorem dX4_payWords_67 : decode cX4_payWords 67 = .ok (.aload_n 0, 1) := by decide +kernel
theorem dX4_payWords_68 : decode cX4_payWords 68 = .ok (.getfield 35, 3) := by decide +kernel
theorem dX4_payWords_71 : decode cX4_payWords 71 = .ok (.iload_n 1, 1) := by decide +kernel
theorem dX4_payWords_72 : decode cX4_payWords 72 = .ok (.iconst 1, 1) := by decide +kernel
theorem dX4_payWords_73 : decode cX4_payWords 73 = .ok (.bastore, 1) := by decide +kernel
theorem dX4_payWords_74 : decode cX4_payWords 74 = .ok (.aload_n 0, 1) := by decide +kernel
theorem dX4_payWords_75 : decode cX4_payWords 75 = .ok (.dup, 1) := by decide +kernel
theorem dX4_payWords_76 : decode cX4_payWords 76 = .ok (.getfield 86, 3) := by decide +kernel
theorem dX4_payWords_79 : decode cX4_payWords 79 = .ok (.bipush 100, 2) := by decide +kernel
theorem dX4_payWords_81 : decode cX4_payWords 81 = .ok (.aload_n 0, 1) := by decide +kernel
theorem dX4_payWords_82 : decode cX4_payWords 82 = .ok (.iload_n 1, 1) := by decide +kernel
theorem dX4_payWords_83 : decode cX4_payWords 83 = .ok (.invokevirtual 89, 3) := by decide +kernel
theorem dX4_payWords_86 : decode cX4_payWords 86 = .ok (.imul, 1) := by decide +kernel
theorem dX4_payWords_87 : decode cX4_payWords 87 = .ok (.iadd, 1) := by decide +kernel
theorem dX4_payWords_88 : decode cX4_payWords 88 = .ok (.putfield 86, 3) := by decide +kernel
theorem dX4_payWords_91 : decode cX4_payWords 91 = .ok (.iinc 1 1, 3) := by decide +kernel
theorem dX4_payWords_94 : decode cX4_payWords 94 = .ok (.goto (-92), 3) := by decide +kernel
theorem dX4_payWords_97 : decode cX4_payWords 97 = .ok (.return_, 1) := by decide +kernel
theorem dX4_arrive_0 : decode cX4_arrive 0 = .ok (.iload_n 1, 1) := by decide +kernel
theorem dX4_arrive_1 : decode cX4_arrive 1 = .ok (.iconst 1, 1) := by decide +kernel
theorem dX4_arrive_2 : decode cX4_arrive 2 = .ok (.bipush 100, 2) := by decide +kernel
theorem dX4_arrive_4 : decode cX4_arrive 4 = .ok (.invokestatic 57, 3) := by decide +kernel
theorem dX4_arrive_7 : decode cX4_arrive 7 = .ok (.ifCond .eq 24, 3) := by decide +kernel
theorem dX4_arrive_10 : decode cX4_arrive 10 = .ok (.iload_n 2, 1) := by decide +kernel
theorem dX4_arrive_11 : decode cX4_arrive 11 = .ok (.iconst 0, 1) := by decide +kernel
theorem dX4_arrive_12 : decode cX4_arrive 12 = .ok (.bipush 25, 2) := by decide +kernel
theorem dX4_arrive_14 : decode cX4_arrive 14 = .ok (.invokestatic 57, 3) := by decide +kernel
theorem dX4_arrive_17 : decode cX4_arrive 17 = .ok (.ifCond .eq 14, 3) := by decide +kernel
theorem dX4_arrive_20 : decode cX4_arrive 20 = .ok (.iload_n 3, 1) := by decide +kernel
theorem dX4_arrive_21 : decode cX4_arrive 21 = .ok (.invokestatic 92, 3) := by decide +kernel
theorem dX4_arrive_24 : decode cX4_arrive 24 = .ok (.ifCond .eq 7, 3) := by decide +kernel
theorem dX4_arrive_27 : decode cX4_arrive 27 = .ok (.iconst 1, 1) := by decide +kernel
theorem dX4_arrive_28 : decode cX4_arrive 28 = .ok (.goto 4, 3) := by decide +kernel
theorem dX4_arrive_31 : decode cX4_arrive 31 = .ok (.iconst 0, 1) := by decide +kernel
theorem dX4_arrive_32 : decode cX4_arrive 32 = .ok (.istore 4, 2) := by decide +kernel
theorem dX4_arrive_34 : decode cX4_arrive 34 = .ok (.iload 4, 2) := by decide +kernel
theorem dX4_arrive_36 : decode cX4_arrive 36 = .ok (.ifCond .eq 25, 3) := by decide +kernel
theorem dX4_arrive_39 : decode cX4_arrive 39 = .ok (.aload_n 0, 1) := by decide +kernel
theorem dX4_arrive_40 : decode cX4_arrive 40 = .ok (.getfield 61, 3) := by decide +kernel
theorem dX4_arrive_43 : decode cX4_arrive 43 = .ok (.bipush 30, 2) := by decide +kernel
theorem dX4_arrive_45 : decode cX4_arrive 45 = .ok (.if_icmp .ge 16, 3) := by decide +kernel
theorem dX4_arrive_48 : decode cX4_arrive 48 = .ok (.aload_n 0, 1) := by decide +kernel
theorem dX4_arrive_49 : decode cX4_arrive 49 = .ok (.iload_n 1, 1) := by decide +kernel
theorem dX4_arrive_50 : decode cX4_arrive 50 = .ok (.iload_n 3, 1) := by decide +kernel
theorem dX4_arrive_51 : decode cX4_arrive 51 = .ok (.invokevirtual 96, 3) := by decide +kernel
theorem dX4_arrive_54 : decode cX4_arrive 54 = .ok (.ifCond .eq 7, 3) := by decide +kernel
theorem dX4_arrive_57 : decode cX4_arrive 57 = .ok (.iconst 1, 1) := by decide +kernel
theorem dX4_arrive_58 : decode cX4_arrive 58 = .ok (.goto 4, 3) := by decide +kernel
theorem dX4_arrive_61 : decode cX4_arrive 61 = .ok (.iconst 0, 1) := by decide +kernel
theorem dX4_arrive_62 : decode cX4_arrive 62 = .ok (.istore 5, 2) := by decide +kernel
theorem dX4_arrive_64 : decode cX4_arrive 64 = .ok (.aload_n 0, 1) := by decide +kernel
theorem dX4_arrive_65 : decode cX4_arrive 65 = .ok (.iload 4, 2) := by decide +kernel
theorem dX4_arrive_67 : decode cX4_arrive 67 = .ok (.ifCond .ne 7, 3) := by decide +kernel
theorem dX4_arrive_70 : decode cX4_arrive 70 = .ok (.iconst 1, 1) := by decide +kernel
theorem dX4_arrive_71 : decode cX4_arrive 71 = .ok (.goto 13, 3) := by decide +kernel
theorem dX4_arrive_74 : decode cX4_arrive 74 = .ok (.iload 5, 2) := by decide +kernel
theorem dX4_arrive_76 : decode cX4_arrive 76 = .ok (.ifCond .eq 7, 3) := by decide +kernel
theorem dX4_arrive_79 : decode cX4_arrive 79 = .ok (.iconst 0, 1) := by decide +kernel
theorem dX4_arrive_80 : decode cX4_arrive 80 = .ok (.goto 4, 3) := by decide +kernel
theorem dX4_arrive_83 : decode cX4_arrive 83 = .ok (.iconst 2, 1) := by decide +kernel
theorem dX4_arrive_84 : decode cX4_arrive 84 = .ok (.invokevirtual 99, 3) := by decide +kernel
theorem dX4_arrive_87 : decode cX4_arrive 87 = .ok (.ifCond .ne 5, 3) := by decide +kernel
theorem dX4_arrive_90 : decode cX4_arrive 90 = .ok (.iconst 0, 1) := by decide +kernel
theorem dX4_arrive_91 : decode cX4_arrive 91 = .ok (.ireturn, 1) := by decide +kernel
theorem dX4_arrive_92 : decode cX4_arrive 92 = .ok (.aload_n 0, 1) := by decide +kernel
theorem dX4_arrive_93 : decode cX4_arrive 93 = .ok (.getfield 16, 3) := by decide +kernel
theorem dX4_arrive_96 : decode cX4_arrive 96 = .ok (.aload_n 0, 1) := by decide +kernel
theorem dX4_arrive_97 : decode cX4_arrive 97 = .ok (.getfield 61, 3) := by decide +kernel
theorem dX4_arrive_100 : decode cX4_arrive 100 = .ok (.iload_n 1, 1) := by decide +kernel
theorem dX4_arrive_101 : decode cX4_arrive 101 = .ok (.iastore, 1) := by decide +kernel
theorem dX4_arrive_102 : decode cX4_arrive 102 = .ok (.aload_n 0, 1) := by decide +kernel
theorem dX4_arrive_103 : decode cX4_arrive 103 = .ok (.getfield 19, 3) := by decide +kernel
theorem dX4_arrive_106 : decode cX4_arrive 106 = .ok (.aload_n 0, 1) := by decide +kernel
theorem dX4_arrive_107 : decode cX4_arrive 107 = .ok (.getfield 61, 3) := by decide +kernel
theorem dX4_arrive_110 : decode cX4_arrive 110 = .ok (.iload_n 2, 1) := by decide +kernel
theorem dX4_arrive_111 : decode cX4_arrive 111 = .ok (.iastore, 1) := by decide +kernel
theorem dX4_arrive_112 : decode cX4_arrive 112 = .ok (.aload_n 0, 1) := by decide +kernel
theorem dX4_arrive_113 : decode cX4_arrive 113 = .ok (.aload_n 0, 1) := by decide +kernel
theorem dX4_arrive_114 : decode cX4_arrive 114 = .ok (.getfield 61, 3) := by decide +kernel
theorem dX4_arrive_117 : decode cX4_arrive 117 = .ok (.iload_n 3, 1) := by decide +kernel
theorem dX4_arrive_118 : decode cX4_arrive 118 = .ok (.invokevirtual 102, 3) := by decide +kernel
theorem dX4_arrive_121 : decode cX4_arrive 121 = .ok (.aload_n 0, 1) := by decide +kernel
theorem dX4_arrive_122 : decode cX4_arrive 122 = .ok (.dup, 1) := by decide +kernel
theorem dX4_arrive_123 : decode cX4_arrive 123 = .ok (.getfield 61, 3) := by decide +kernel
theorem dX4_arrive_126 : decode cX4_arrive 126 = .ok (.iconst 1, 1) := by decide +kernel
theorem dX4_arrive_127 : decode cX4_arrive 127 = .ok (.iadd, 1) := by decide +kernel
theorem dX4_arrive_128 : decode cX4_arrive 128 = .ok (.putfield 61, 3) := by decide +kernel
theorem dX4_arrive_131 : decode cX4_arrive 131 = .ok (.aload_n 0, 1) := by decide +kernel
theorem dX4_arrive_132 : decode cX4_arrive 132 = .ok (.invokevirtual 106, 3) := by decide +kernel
theorem dX4_arrive_135 : decode cX4_arrive 135 = .ok (.aload_n 0, 1) := by decide +kernel
theorem dX4_arrive_136 : decode cX4_arrive 136 = .ok (.getfield 61, 3) := by decide +kernel
theorem dX4_arrive_139 : decode cX4_arrive 139 = .ok (.iconst 1, 1) := by decide +kernel
theorem dX4_arrive_140 : decode cX4_arrive 140 = .ok (.isub, 1) := by decide +kernel
theorem dX4_arrive_141 : decode cX4_arrive 141 = .ok (.ireturn, 1) := by decide +kernel
theorem dX4_lift_0 : decode cX4_lift 0 = .ok (.iload_n 1, 1) := by decide +kernel
theorem dX4_lift_1 : decode cX4_lift 1 = .ok (.invokestatic 92, 3) := by decide +kernel
theorem dX4_lift_4 : decode cX4_lift 4 = .ok (.istore_n 2, 1) := by decide +kernel
theorem dX4_lift_5 : decode cX4_lift 5 = .ok (.aload_n 0, 1) := by decide +kernel
theorem dX4_lift_6 : decode cX4_lift 6 = .ok (.iload_n 2, 1) := by decide +kernel
theorem dX4_lift_7 : decode cX4_lift 7 = .ok (.ifCond .ne 7, 3) := by decide +kernel
theorem dX4_lift_10 : decode cX4_lift 10 = .ok (.iconst 1, 1) := by decide +kernel
theorem dX4_lift_11 : decode cX4_lift 11 = .ok (.goto 25, 3) := by decide +kernel
theorem dX4_lift_14 : decode cX4_lift 14 = .ok (.aload_n 0, 1) := by decide +kernel
theorem dX4_lift_15 : decode cX4_lift 15 = .ok (.getfield 13, 3) := by decide +kernel
theorem dX4_lift_18 : decode cX4_lift 18 = .ok (.iload_n 1, 1) := by decide +kernel
theorem dX4_lift_19 : decode cX4_lift 19 = .ok (.iaload, 1) := by decide +kernel
theorem dX4_lift_20 : decode cX4_lift 20 = .ok (.ifCond .eq 11, 3) := by decide +kernel
theorem dX4_lift_23 : decode cX4_lift 23 = .ok (.aload_n 0, 1) := by decide +kernel
theorem dX4_lift_24 : decode cX4_lift 24 = .ok (.getfield 22, 3) := by decide +kernel
theorem dX4_lift_27 : decode cX4_lift 27 = .ok (.iconst (-1), 1) := by decide +kernel
theorem dX4_lift_28 : decode cX4_lift 28 = .ok (.if_icmp .eq 7, 3) := by decide +kernel
theorem dX4_lift_31 : decode cX4_lift 31 = .ok (.iconst 2, 1) := by decide +kernel
theorem dX4_lift_32 : decode cX4_lift 32 = .ok (.goto 4, 3) := by decide +kernel
theorem dX4_lift_35 : decode cX4_lift 35 = .ok (.iconst 0, 1) := by decide +kernel
theorem dX4_lift_36 : decode cX4_lift 36 = .ok (.invokevirtual 99, 3) := by decide +kernel
theorem dX4_lift_39 : decode cX4_lift 39 = .ok (.ifCond .ne 5, 3) := by decide +kernel
theorem dX4_lift_42 : decode cX4_lift 42 = .ok (.iconst 0, 1) := by decide +kernel
theorem dX4_lift_43 : decode cX4_lift 43 = .ok (.ireturn, 1) := by decide +kernel
theorem dX4_lift_44 : decode cX4_lift 44 = .ok (.aload_n 0, 1) := by decide +kernel
theorem dX4_lift_45 : decode cX4_lift 45 = .ok (.aload_n 0, 1) := by decide +kernel
theorem dX4_lift_46 : decode cX4_lift 46 = .ok (.iload_n 1, 1) := by decide +kernel
theorem dX4_lift_47 : decode cX4_lift 47 = .ok (.invokevirtual 75, 3) := by decide +kernel
theorem dX4_lift_50 : decode cX4_lift 50 = .ok (.putfield 22, 3) := by decide +kernel
theorem dX4_lift_53 : decode cX4_lift 53 = .ok (.aload_n 0, 1) := by decide +kernel
theorem dX4_lift_54 : decode cX4_lift 54 = .ok (.getfield 13, 3) := by decide +kernel
theorem dX4_lift_57 : decode cX4_lift 57 = .ok (.iload_n 1, 1) := by decide +kernel
theorem dX4_lift_58 : decode cX4_lift 58 = .ok (.dup2, 1) := by decide +kernel
theorem dX4_lift_59 : decode cX4_lift 59 = .ok (.iaload, 1) := by decide +kernel
theorem dX4_lift_60 : decode cX4_lift 60 = .ok (.iconst 1, 1) := by decide +kernel
theorem dX4_lift_61 : decode cX4_lift 61 = .ok (.isub, 1) := by decide +kernel
theorem dX4_lift_62 : decode cX4_lift 62 = .ok (.iastore, 1) := by decide +kernel
theorem dX4_lift_63 : decode cX4_lift 63 = .ok (.aload_n 0, 1) := by decide +kernel
theorem dX4_lift_64 : decode cX4_lift 64 = .ok (.dup, 1) := by decide +kernel
theorem dX4_lift_65 : decode cX4_lift 65 = .ok (.getfield 109, 3) := by decide +kernel
theorem dX4_lift_68 : decode cX4_lift 68 = .ok (.iconst 1, 1) := by decide +kernel
theorem dX4_lift_69 : decode cX4_lift 69 = .ok (.iadd, 1) := by decide +kernel
theorem dX4_lift_70 : decode cX4_lift 70 = .ok (.putfield 109, 3) := by decide +kernel
theorem dX4_lift_73 : decode cX4_lift 73 = .ok (.aload_n 0, 1) := by decide +kernel
theorem dX4_lift_74 : decode cX4_lift 74 = .ok (.invokevirtual 106, 3) := by decide +kernel
theorem dX4_lift_77 : decode cX4_lift 77 = .ok (.aload_n 0, 1) := by decide +kernel
theorem dX4_lift_78 : decode cX4_lift 78 = .ok (.getfield 22, 3) := by decide +kernel
theorem dX4_lift_81 : decode cX4_lift 81 = .ok (.ireturn, 1) := by decide +kernel
theorem dX4_drop_0 : decode cX4_drop 0 = .ok (.iload_n 1, 1) := by decide +kernel
theorem dX4_drop_1 : decode cX4_drop 1 = .ok (.invokestatic 92, 3) := by decide +kernel
theorem dX4_drop_4 : decode cX4_drop 4 = .ok (.istore_n 2, 1) := by decide +kernel
theorem dX4_drop_5 : decode cX4_drop 5 = .ok (.iload_n 2, 1) := by decide +kernel
theorem dX4_drop_6 : decode cX4_drop 6 = .ok (.ifCond .eq 32, 3) := by decide +kernel
theorem dX4_drop_9 : decode cX4_drop 9 = .ok (.aload_n 0, 1) := by decide +kernel
theorem dX4_drop_10 : decode cX4_drop 10 = .ok (.getfield 22, 3) := by decide +kernel
theorem dX4_drop_13 : decode cX4_drop 13 = .ok (.iconst (-1), 1) := by decide +kernel
theorem dX4_drop_14 : decode cX4_drop 14 = .ok (.if_icmp .eq 24, 3) := by decide +kernel
theorem dX4_drop_17 : decode cX4_drop 17 = .ok (.aload_n 0, 1) := by decide +kernel
theorem dX4_drop_18 : decode cX4_drop 18 = .ok (.aload_n 0, 1) := by decide +kernel
theorem dX4_drop_19 : decode cX4_drop 19 = .ok (.getfield 16, 3) := by decide +kernel
theorem dX4_drop_22 : decode cX4_drop 22 = .ok (.aload_n 0, 1) := by decide +kernel
theorem dX4_drop_23 : decode cX4_drop 23 = .ok (.getfield 22, 3) := by decide +kernel
theorem dX4_drop_26 : decode cX4_drop 26 = .ok (.iaload, 1) := by decide +kernel
theorem dX4_drop_27 : decode cX4_drop 27 = .ok (.iload_n 1, 1) := by decide +kernel
theorem dX4_drop_28 : decode cX4_drop 28 = .ok (.invokevirtual 96, 3) := by decide +kernel
theorem dX4_drop_31 : decode cX4_drop 31 = .ok (.ifCond .eq 7, 3) := by decide +kernel
theorem dX4_drop_34 : decode cX4_drop 34 = .ok (.iconst 1, 1) := by decide +kernel
theorem dX4_drop_35 : decode cX4_drop 35 = .ok (.goto 4, 3) := by decide +kernel
theorem dX4_drop_38 : decode cX4_drop 38 = .ok (.iconst 0, 1) := by decide +kernel
theorem dX4_drop_39 : decode cX4_drop 39 = .ok (.istore_n 3, 1) := by decide +kernel
theorem dX4_drop_40 : decode cX4_drop 40 = .ok (.aload_n 0, 1) := by decide +kernel
theorem dX4_drop_41 : decode cX4_drop 41 = .ok (.iload_n 2, 1) := by decide +kernel
theorem dX4_drop_42 : decode cX4_drop 42 = .ok (.ifCond .ne 7, 3) := by decide +kernel
theorem dX4_drop_45 : decode cX4_drop 45 = .ok (.iconst 1, 1) := by decide +kernel
theorem dX4_drop_46 : decode cX4_drop 46 = .ok (.goto 12, 3) := by decide +kernel
theorem dX4_drop_49 : decode cX4_drop 49 = .ok (.iload_n 3, 1) := by decide +kernel
theorem dX4_drop_50 : decode cX4_drop 50 = .ok (.ifCond .eq 7, 3) := by decide +kernel
theorem dX4_drop_53 : decode cX4_drop 53 = .ok (.iconst 0, 1) := by decide +kernel
theorem dX4_drop_54 : decode cX4_drop 54 = .ok (.goto 4, 3) := by decide +kernel
theorem dX4_drop_57 : decode cX4_drop 57 = .ok (.iconst 2, 1) := by decide +kernel
theorem dX4_drop_58 : decode cX4_drop 58 = .ok (.invokevirtual 99, 3) := by decide +kernel
theorem dX4_drop_61 : decode cX4_drop 61 = .ok (.ifCond .ne 5, 3) := by decide +kernel
theorem dX4_drop_64 : decode cX4_drop 64 = .ok (.iconst 0, 1) := by decide +kernel
theorem dX4_drop_65 : decode cX4_drop 65 = .ok (.ireturn, 1) := by decide +kernel
theorem dX4_drop_66 : decode cX4_drop 66 = .ok (.aload_n 0, 1) := by decide +kernel
theorem dX4_drop_67 : decode cX4_drop 67 = .ok (.aload_n 0, 1) := by decide +kernel
theorem dX4_drop_68 : decode cX4_drop 68 = .ok (.getfield 22, 3) := by decide +kernel
theorem dX4_drop_71 : decode cX4_drop 71 = .ok (.iload_n 1, 1) := by decide +kernel
theorem dX4_drop_72 : decode cX4_drop 72 = .ok (.invokevirtual 102, 3) := by decide +kernel
theorem dX4_drop_75 : decode cX4_drop 75 = .ok (.aload_n 0, 1) := by decide +kernel
theorem dX4_drop_76 : decode cX4_drop 76 = .ok (.iconst (-1), 1) := by decide +kernel
theorem dX4_drop_77 : decode cX4_drop 77 = .ok (.putfield 22, 3) := by decide +kernel
theorem dX4_drop_80 : decode cX4_drop 80 = .ok (.aload_n 0, 1) := by decide +kernel
theorem dX4_drop_81 : decode cX4_drop 81 = .ok (.invokevirtual 106, 3) := by decide +kernel
theorem dX4_drop_84 : decode cX4_drop 84 = .ok (.aload_n 0, 1) := by decide +kernel
theorem dX4_drop_85 : decode cX4_drop 85 = .ok (.getfield 13, 3) := by decide +kernel
theorem dX4_drop_88 : decode cX4_drop 88 = .ok (.iload_n 1, 1) := by decide +kernel
theorem dX4_drop_89 : decode cX4_drop 89 = .ok (.iaload, 1) := by decide +kernel
theorem dX4_drop_90 : decode cX4_drop 90 = .ok (.ireturn, 1) := by decide +kernel
theorem dX4_copyYard_0 : decode cX4_copyYard 0 = .ok (.iconst 0, 1) := by decide +kernel
theorem dX4_copyYard_1 : decode cX4_copyYard 1 = .ok (.istore_n 1, 1) := by decide +kernel
theorem dX4_copyYard_2 : decode cX4_copyYard 2 = .ok (.iload_n 1, 1) := by decide +kernel
theorem dX4_copyYard_3 : decode cX4_copyYard 3 = .ok (.bipush 30, 2) := by decide +kernel
theorem dX4_copyYard_5 : decode cX4_copyYard 5 = .ok (.if_icmp .ge 21, 3) := by decide +kernel
theorem dX4_copyYard_8 : decode cX4_copyYard 8 = .ok (.aload_n 0, 1) := by decide +kernel
theorem dX4_copyYard_9 : decode cX4_copyYard 9 = .ok (.getfield 26, 3) := by decide +kernel
theorem dX4_copyYard_12 : decode cX4_copyYard 12 = .ok (.iload_n 1, 1) := by decide +kernel
theorem dX4_copyYard_13 : decode cX4_copyYard 13 = .ok (.aload_n 0, 1) := by decide +kernel
theorem dX4_copyYard_14 : decode cX4_copyYard 14 = .ok (.getfield 7, 3) := by decide +kernel
theorem dX4_copyYard_17 : decode cX4_copyYard 17 = .ok (.iload_n 1, 1) := by decide +kernel
theorem dX4_copyYard_18 : decode cX4_copyYard 18 = .ok (.iaload, 1) := by decide +kernel
theorem dX4_copyYard_19 : decode cX4_copyYard 19 = .ok (.iastore, 1) := by decide +kernel
theorem dX4_copyYard_20 : decode cX4_copyYard 20 = .ok (.iinc 1 1, 3) := by decide +kernel
theorem dX4_copyYard_23 : decode cX4_copyYard 23 = .ok (.goto (-21), 3) := by decide +kernel
theorem dX4_copyYard_26 : decode cX4_copyYard 26 = .ok (.iconst 0, 1) := by decide +kernel
theorem dX4_copyYard_27 : decode cX4_copyYard 27 = .ok (.istore_n 1, 1) := by decide +kernel
theorem dX4_copyYard_28 : decode cX4_copyYard 28 = .ok (.iload_n 1, 1) := by decide +kernel
theorem dX4_copyYard_29 : decode cX4_copyYard 29 = .ok (.bipush 6, 2) := by decide +kernel
theorem dX4_copyYard_31 : decode cX4_copyYard 31 = .ok (.if_icmp .ge 21, 3) := by decide +kernel
theorem dX4_copyYard_34 : decode cX4_copyYard 34 = .ok (.aload_n 0, 1) := by decide +kernel
theorem dX4_copyYard_35 : decode cX4_copyYard 35 = .ok (.getfield 29, 3) := by decide +kernel
theorem dX4_copyYard_38 : decode cX4_copyYard 38 = .ok (.iload_n 1, 1) := by decide +kernel
theorem dX4_copyYard_39 : decode cX4_copyYard 39 = .ok (.aload_n 0, 1) := by decide +kernel
theorem dX4_copyYard_40 : decode cX4_copyYard 40 = .ok (.getfield 13, 3) := by decide +kernel
theorem dX4_copyYard_43 : decode cX4_copyYard 43 = .ok (.iload_n 1, 1) := by decide +kernel
theorem dX4_copyYard_44 : decode cX4_copyYard 44 = .ok (.iaload, 1) := by decide +kernel
theorem dX4_copyYard_45 : decode cX4_copyYard 45 = .ok (.iastore, 1) := by decide +kernel
theorem dX4_copyYard_46 : decode cX4_copyYard 46 = .ok (.iinc 1 1, 3) := by decide +kernel
theorem dX4_copyYard_49 : decode cX4_copyYard 49 = .ok (.goto (-21), 3) := by decide +kernel
theorem dX4_copyYard_52 : decode cX4_copyYard 52 = .ok (.return_, 1) := by decide +kernel
theorem dX4_canTry_0 : decode cX4_canTry 0 = .ok (.aload_n 0, 1) := by decide +kernel
theorem dX4_canTry_1 : decode cX4_canTry 1 = .ok (.getfield 29, 3) := by decide +kernel
theorem dX4_canTry_4 : decode cX4_canTry 4 = .ok (.iload_n 2, 1) := by decide +kernel
theorem dX4_canTry_5 : decode cX4_canTry 5 = .ok (.iaload, 1) := by decide +kernel
theorem dX4_canTry_6 : decode cX4_canTry 6 = .ok (.istore_n 3, 1) := by decide +kernel
theorem dX4_canTry_7 : decode cX4_canTry 7 = .ok (.iload_n 3, 1) := by decide +kernel
theorem dX4_canTry_8 : decode cX4_canTry 8 = .ok (.aload_n 0, 1) := by decide +kernel
theorem dX4_canTry_9 : decode cX4_canTry 9 = .ok (.invokevirtual 71, 3) := by decide +kernel
theorem dX4_canTry_12 : decode cX4_canTry 12 = .ok (.if_icmp .ge 37, 3) := by decide +kernel
theorem dX4_canTry_15 : decode cX4_canTry 15 = .ok (.iload_n 3, 1) := by decide +kernel
theorem dX4_canTry_16 : decode cX4_canTry 16 = .ok (.ifCond .eq 29, 3) := by decide +kernel
theorem dX4_canTry_19 : decode cX4_canTry 19 = .ok (.aload_n 0, 1) := by decide +kernel
theorem dX4_canTry_20 : decode cX4_canTry 20 = .ok (.getfield 16, 3) := by decide +kernel
theorem dX4_canTry_23 : decode cX4_canTry 23 = .ok (.aload_n 0, 1) := by decide +kernel
theorem dX4_canTry_24 : decode cX4_canTry 24 = .ok (.getfield 26, 3) := by decide +kernel
theorem dX4_canTry_27 : decode cX4_canTry 27 = .ok (.iconst 5, 1) := by decide +kernel
theorem dX4_canTry_28 : decode cX4_canTry 28 = .ok (.iload_n 2, 1) := by decide +kernel
theorem dX4_canTry_29 : decode cX4_canTry 29 = .ok (.imul, 1) := by decide +kernel
theorem dX4_canTry_30 : decode cX4_canTry 30 = .ok (.iload_n 3, 1) := by decide +kernel
theorem dX4_canTry_31 : decode cX4_canTry 31 = .ok (.iadd, 1) := by decide +kernel
theorem dX4_canTry_32 : decode cX4_canTry 32 = .ok (.iconst 1, 1) := by decide +kernel
theorem dX4_canTry_33 : decode cX4_canTry 33 = .ok (.isub, 1) := by decide +kernel
theorem dX4_canTry_34 : decode cX4_canTry 34 = .ok (.iaload, 1) := by decide +kernel
theorem dX4_canTry_35 : decode cX4_canTry 35 = .ok (.iaload, 1) := by decide +kernel
theorem dX4_canTry_36 : decode cX4_canTry 36 = .ok (.aload_n 0, 1) := by decide +kernel
theorem dX4_canTry_37 : decode cX4_canTry 37 = .ok (.getfield 16, 3) := by decide +kernel
theorem dX4_canTry_40 : decode cX4_canTry 40 = .ok (.iload_n 1, 1) := by decide +kernel
theorem dX4_canTry_41 : decode cX4_canTry 41 = .ok (.iaload, 1) := by decide +kernel
theorem dX4_canTry_42 : decode cX4_canTry 42 = .ok (.if_icmp .lt 7, 3) := by decide +kernel
theorem dX4_canTry_45 : decode cX4_canTry 45 = .ok (.iconst 1, 1) := by decide +kernel
theorem dX4_canTry_46 : decode cX4_canTry 46 = .ok (.goto 4, 3) := by decide +kernel
theorem dX4_canTry_49 : decode cX4_canTry 49 = .ok (.iconst 0, 1) := by decide +kernel
theorem dX4_canTry_50 : decode cX4_canTry 50 = .ok (.ireturn, 1) := by decide +kernel
theorem dX4_find_0 : decode cX4_find 0 = .ok (.iconst 0, 1) := by decide +kernel
theorem dX4_find_1 : decode cX4_find 1 = .ok (.istore_n 2, 1) := by decide +kernel
theorem dX4_find_2 : decode cX4_find 2 = .ok (.iload_n 2, 1) := by decide +kernel
theorem dX4_find_3 : decode cX4_find 3 = .ok (.bipush 30, 2) := by decide +kernel
theorem dX4_find_5 : decode cX4_find 5 = .ok (.if_icmp .ge 37, 3) := by decide +kernel
theorem dX4_find_8 : decode cX4_find 8 = .ok (.iload_n 2, 1) := by decide +kernel
theorem dX4_find_9 : decode cX4_find 9 = .ok (.iconst 5, 1) := by decide +kernel
theorem dX4_find_10 : decode cX4_find 10 = .ok (.irem, 1) := by decide +kernel
theorem dX4_find_11 : decode cX4_find 11 = .ok (.aload_n 0, 1) := by decide +kernel
theorem dX4_find_12 : decode cX4_find 12 = .ok (.getfield 29, 3) := by decide +kernel
theorem dX4_find_15 : decode cX4_find 15 = .ok (.iload_n 2, 1) := by decide +kernel
theorem dX4_find_16 : decode cX4_find 16 = .ok (.iconst 5, 1) := by decide +kernel
theorem dX4_find_17 : decode cX4_find 17 = .ok (.idiv, 1) := by decide +kernel
theorem dX4_find_18 : decode cX4_find 18 = .ok (.iaload, 1) := by decide +kernel
theorem dX4_find_19 : decode cX4_find 19 = .ok (.if_icmp .ge 17, 3) := by decide +kernel
theorem dX4_find_22 : decode cX4_find 22 = .ok (.aload_n 0, 1) := by decide +kernel
theorem dX4_find_23 : decode cX4_find 23 = .ok (.getfield 26, 3) := by decide +kernel
theorem dX4_find_26 : decode cX4_find 26 = .ok (.iload_n 2, 1) := by decide +kernel
theorem dX4_find_27 : decode cX4_find 27 = .ok (.iaload, 1) := by decide +kernel
theorem dX4_find_28 : decode cX4_find 28 = .ok (.iload_n 1, 1) := by decide +kernel
theorem dX4_find_29 : decode cX4_find 29 = .ok (.if_icmp .ne 7, 3) := by decide +kernel
theorem dX4_find_32 : decode cX4_find 32 = .ok (.iload_n 2, 1) := by decide +kernel
theorem dX4_find_33 : decode cX4_find 33 = .ok (.iconst 5, 1) := by decide +kernel
theorem dX4_find_34 : decode cX4_find 34 = .ok (.idiv, 1) := by decide +kernel
theorem dX4_find_35 : decode cX4_find 35 = .ok (.ireturn, 1) := by decide +kernel
theorem dX4_find_36 : decode cX4_find 36 = .ok (.iinc 2 1, 3) := by decide +kernel
theorem dX4_find_39 : decode cX4_find 39 = .ok (.goto (-37), 3) := by decide +kernel
theorem dX4_find_42 : decode cX4_find 42 = .ok (.iconst (-1), 1) := by decide +kernel
theorem dX4_find_43 : decode cX4_find 43 = .ok (.ireturn, 1) := by decide +kernel
theorem dX4_digOut_0 : decode cX4_digOut 0 = .ok (.aload_n 0, 1) := by decide +kernel
theorem dX4_digOut_1 : decode cX4_digOut 1 = .ok (.iload_n 1, 1) := by decide +kernel
theorem dX4_digOut_2 : decode cX4_digOut 2 = .ok (.invokevirtual 112, 3) := by decide +kernel
theorem dX4_digOut_5 : decode cX4_digOut 5 = .ok (.istore_n 2, 1) := by decide +kernel
theorem dX4_digOut_6 : decode cX4_digOut 6 = .ok (.iconst 0, 1) := by decide +kernel
theorem dX4_digOut_7 : decode cX4_digOut 7 = .ok (.istore_n 3, 1) := by decide +kernel
theorem dX4_digOut_8 : decode cX4_digOut 8 = .ok (.iload_n 2, 1) := by decide +kernel
theorem dX4_digOut_9 : decode cX4_digOut 9 = .ok (.iconst (-1), 1) := by decide +kernel
theorem dX4_digOut_10 : decode cX4_digOut 10 = .ok (.if_icmp .eq 174, 3) := by decide +kernel
theorem dX4_digOut_13 : decode cX4_digOut 13 = .ok (.aload_n 0, 1) := by decide +kernel
theorem dX4_digOut_14 : decode cX4_digOut 14 = .ok (.getfield 26, 3) := by decide +kernel
theorem dX4_digOut_17 : decode cX4_digOut 17 = .ok (.iconst 5, 1) := by decide +kernel
theorem dX4_digOut_18 : decode cX4_digOut 18 = .ok (.iload_n 2, 1) := by decide +kernel
theorem dX4_digOut_19 : decode cX4_digOut 19 = .ok (.imul, 1) := by decide +kernel
theorem dX4_digOut_20 : decode cX4_digOut 20 = .ok (.aload_n 0, 1) := by decide +kernel
theorem dX4_digOut_21 : decode cX4_digOut 21 = .ok (.getfield 29, 3) := by decide +kernel
theorem dX4_digOut_24 : decode cX4_digOut 24 = .ok (.iload_n 2, 1) := by decide +kernel
theorem dX4_digOut_25 : decode cX4_digOut 25 = .ok (.iaload, 1) := by decide +kernel
theorem dX4_digOut_26 : decode cX4_digOut 26 = .ok (.iadd, 1) := by decide +kernel
theorem dX4_digOut_27 : decode cX4_digOut 27 = .ok (.iconst 1, 1) := by decide +kernel
theorem dX4_digOut_28 : decode cX4_digOut 28 = .ok (.isub, 1) := by decide +kernel
theorem dX4_digOut_29 : decode cX4_digOut 29 = .ok (.iaload, 1) := by decide +kernel
theorem dX4_digOut_30 : decode cX4_digOut 30 = .ok (.istore 4, 2) := by decide +kernel
theorem dX4_digOut_32 : decode cX4_digOut 32 = .ok (.iinc 3 1, 3) := by decide +kernel
theorem dX4_digOut_35 : decode cX4_digOut 35 = .ok (.iload 4, 2) := by decide +kernel
theorem dX4_digOut_37 : decode cX4_digOut 37 = .ok (.iload_n 1, 1) := by decide +kernel
theorem dX4_digOut_38 : decode cX4_digOut 38 = .ok (.if_icmp .ne 15, 3) := by decide +kernel
theorem dX4_digOut_41 : decode cX4_digOut 41 = .ok (.aload_n 0, 1) := by decide +kernel
theorem dX4_digOut_42 : decode cX4_digOut 42 = .ok (.getfield 29, 3) := by decide +kernel
theorem dX4_digOut_45 : decode cX4_digOut 45 = .ok (.iload_n 2, 1) := by decide +kernel
theorem dX4_digOut_46 : decode cX4_digOut 46 = .ok (.dup2, 1) := by decide +kernel
theorem dX4_digOut_47 : decode cX4_digOut 47 = .ok (.iaload, 1) := by decide +kernel
theorem dX4_digOut_48 : decode cX4_digOut 48 = .ok (.iconst 1, 1) := by decide +kernel
theorem dX4_digOut_49 : decode cX4_digOut 49 = .ok (.isub, 1) := by decide +kernel
theorem dX4_digOut_50 : decode cX4_digOut 50 = .ok (.iastore, 1) := by decide +kernel
theorem dX4_digOut_51 : decode cX4_digOut 51 = .ok (.iload_n 3, 1) := by decide +kernel
theorem dX4_digOut_52 : decode cX4_digOut 52 = .ok (.ireturn, 1) := by decide +kernel
theorem dX4_digOut_53 : decode cX4_digOut 53 = .ok (.iconst (-1), 1) := by decide +kernel
theorem dX4_digOut_54 : decode cX4_digOut 54 = .ok (.istore 5, 2) := by decide +kernel
theorem dX4_digOut_56 : decode cX4_digOut 56 = .ok (.iconst 0, 1) := by decide +kernel
theorem dX4_digOut_57 : decode cX4_digOut 57 = .ok (.istore 6, 2) := by decide +kernel
theorem dX4_digOut_59 : decode cX4_digOut 59 = .ok (.iload 6, 2) := by decide +kernel
theorem dX4_digOut_61 : decode cX4_digOut 61 = .ok (.bipush 6, 2) := by decide +kernel
theorem dX4_digOut_63 : decode cX4_digOut 63 = .ok (.if_icmp .ge 70, 3) := by decide +kernel
theorem dX4_digOut_66 : decode cX4_digOut 66 = .ok (.iload 6, 2) := by decide +kernel
theorem dX4_digOut_68 : decode cX4_digOut 68 = .ok (.iload_n 2, 1) := by decide +kernel
theorem dX4_digOut_69 : decode cX4_digOut 69 = .ok (.if_icmp .eq 18, 3) := by decide +kernel
theorem dX4_digOut_72 : decode cX4_digOut 72 = .ok (.aload_n 0, 1) := by decide +kernel
theorem dX4_digOut_73 : decode cX4_digOut 73 = .ok (.iload 4, 2) := by decide +kernel
theorem dX4_digOut_75 : decode cX4_digOut 75 = .ok (.iload 6, 2) := by decide +kernel
theorem dX4_digOut_77 : decode cX4_digOut 77 = .ok (.invokevirtual 115, 3) := by decide +kernel
theorem dX4_digOut_80 : decode cX4_digOut 80 = .ok (.ifCond .eq 7, 3) := by decide +kernel
theorem dX4_digOut_83 : decode cX4_digOut 83 = .ok (.iconst 1, 1) := by decide +kernel
theorem dX4_digOut_84 : decode cX4_digOut 84 = .ok (.goto 4, 3) := by decide +kernel
theorem dX4_digOut_87 : decode cX4_digOut 87 = .ok (.iconst 0, 1) := by decide +kernel
theorem dX4_digOut_88 : decode cX4_digOut 88 = .ok (.istore 7, 2) := by decide +kernel
theorem dX4_digOut_90 : decode cX4_digOut 90 = .ok (.iload 7, 2) := by decide +kernel
theorem dX4_digOut_92 : decode cX4_digOut 92 = .ok (.ifCond .eq 31, 3) := by decide +kernel
theorem dX4_digOut_95 : decode cX4_digOut 95 = .ok (.iload 5, 2) := by decide +kernel
theorem dX4_digOut_97 : decode cX4_digOut 97 = .ok (.iconst (-1), 1) := by decide +kernel
theorem dX4_digOut_98 : decode cX4_digOut 98 = .ok (.if_icmp .eq 20, 3) := by decide +kernel
theorem dX4_digOut_101 : decode cX4_digOut 101 = .ok (.aload_n 0, 1) := by decide +kernel
theorem dX4_digOut_102 : decode cX4_digOut 102 = .ok (.getfield 29, 3) := by decide +kernel
theorem dX4_digOut_105 : decode cX4_digOut 105 = .ok (.iload 6, 2) := by decide +kernel
theorem dX4_digOut_107 : decode cX4_digOut 107 = .ok (.iaload, 1) := by decide +kernel
theorem dX4_digOut_108 : decode cX4_digOut 108 = .ok (.aload_n 0, 1) := by decide +kernel
theorem dX4_digOut_109 : decode cX4_digOut 109 = .ok (.getfield 29, 3) := by decide +kernel
theorem dX4_digOut_112 : decode cX4_digOut 112 = .ok (.iload 5, 2) := by decide +kernel
theorem dX4_digOut_114 : decode cX4_digOut 114 = .ok (.iaload, 1) := by decide +kernel
theorem dX4_digOut_115 : decode cX4_digOut 115 = .ok (.if_icmp .ge 8, 3) := by decide +kernel
theorem dX4_digOut_118 : decode cX4_digOut 118 = .ok (.iload 6, 2) := by decide +kernel
theorem dX4_digOut_120 : decode cX4_digOut 120 = .ok (.goto 5, 3) := by decide +kernel
theorem dX4_digOut_123 : decode cX4_digOut 123 = .ok (.iload 5, 2) := by decide +kernel
theorem dX4_digOut_125 : decode cX4_digOut 125 = .ok (.istore 5, 2) := by decide +kernel
theorem dX4_digOut_127 : decode cX4_digOut 127 = .ok (.iinc 6 1, 3) := by decide +kernel
theorem dX4_digOut_130 : decode cX4_digOut 130 = .ok (.goto (-71), 3) := by decide +kernel
theorem dX4_digOut_133 : decode cX4_digOut 133 = .ok (.iload 5, 2) := by decide +kernel
theorem dX4_digOut_135 : decode cX4_digOut 135 = .ok (.iconst (-1), 1) := by decide +kernel
theorem dX4_digOut_136 : decode cX4_digOut 136 = .ok (.if_icmp .ne 5, 3) := by decide +kernel
theorem dX4_digOut_139 : decode cX4_digOut 139 = .ok (.iconst (-1), 1) := by decide +kernel
theorem dX4_digOut_140 : decode cX4_digOut 140 = .ok (.ireturn, 1) := by decide +kernel
theorem dX4_digOut_141 : decode cX4_digOut 141 = .ok (.aload_n 0, 1) := by decide +kernel
theorem dX4_digOut_142 : decode cX4_digOut 142 = .ok (.getfield 29, 3) := by decide +kernel
theorem dX4_digOut_145 : decode cX4_digOut 145 = .ok (.iload_n 2, 1) := by decide +kernel
theorem dX4_digOut_146 : decode cX4_digOut 146 = .ok (.dup2, 1) := by decide +kernel
theorem dX4_digOut_147 : decode cX4_digOut 147 = .ok (.iaload, 1) := by decide +kernel
theorem dX4_digOut_148 : decode cX4_digOut 148 = .ok (.iconst 1, 1) := by decide +kernel
theorem dX4_digOut_149 : decode cX4_digOut 149 = .ok (.isub, 1) := by decide +kernel
theorem dX4_digOut_150 : decode cX4_digOut 150 = .ok (.iastore, 1) := by decide +kernel
theorem dX4_digOut_151 : decode cX4_digOut 151 = .ok (.aload_n 0, 1) := by decide +kernel
theorem dX4_digOut_152 : decode cX4_digOut 152 = .ok (.getfield 26, 3) := by decide +kernel
theorem dX4_digOut_155 : decode cX4_digOut 155 = .ok (.iconst 5, 1) := by decide +kernel
theorem dX4_digOut_156 : decode cX4_digOut 156 = .ok (.iload 5, 2) := by decide +kernel
theorem dX4_digOut_158 : decode cX4_digOut 158 = .ok (.imul, 1) := by decide +kernel
theorem dX4_digOut_159 : decode cX4_digOut 159 = .ok (.aload_n 0, 1) := by decide +kernel
theorem dX4_digOut_160 : decode cX4_digOut 160 = .ok (.getfield 29, 3) := by decide +kernel
theorem dX4_digOut_163 : decode cX4_digOut 163 = .ok (.iload 5, 2) := by decide +kernel
theorem dX4_digOut_165 : decode cX4_digOut 165 = .ok (.iaload, 1) := by decide +kernel
theorem dX4_digOut_166 : decode cX4_digOut 166 = .ok (.iadd, 1) := by decide +kernel
theorem dX4_digOut_167 : decode cX4_digOut 167 = .ok (.iload 4, 2) := by decide +kernel
theorem dX4_digOut_169 : decode cX4_digOut 169 = .ok (.iastore, 1) := by decide +kernel
theorem dX4_digOut_170 : decode cX4_digOut 170 = .ok (.aload_n 0, 1) := by decide +kernel
theorem dX4_digOut_171 : decode cX4_digOut 171 = .ok (.getfield 29, 3) := by decide +kernel
theorem dX4_digOut_174 : decode cX4_digOut 174 = .ok (.iload 5, 2) := by decide +kernel
theorem dX4_digOut_176 : decode cX4_digOut 176 = .ok (.dup2, 1) := by decide +kernel
theorem dX4_digOut_177 : decode cX4_digOut 177 = .ok (.iaload, 1) := by decide +kernel
theorem dX4_digOut_178 : decode cX4_digOut 178 = .ok (.iconst 1, 1) := by decide +kernel
theorem dX4_digOut_179 : decode cX4_digOut 179 = .ok (.iadd, 1) := by decide +kernel
theorem dX4_digOut_180 : decode cX4_digOut 180 = .ok (.iastore, 1) := by decide +kernel
theorem dX4_digOut_181 : decode cX4_digOut 181 = .ok (.goto (-173), 3) := by decide +kernel
theorem dX4_digOut_184 : decode cX4_digOut 184 = .ok (.iconst (-1), 1) := by decide +kernel
theorem dX4_digOut_185 : decode cX4_digOut 185 = .ok (.ireturn, 1) := by decide +kernel
theorem dX4_dig_0 : decode cX4_dig 0 = .ok (.aload_n 0, 1) := by decide +kernel
theorem dX4_dig_1 : decode cX4_dig 1 = .ok (.invokevirtual 118, 3) := by decide +kernel
theorem dX4_dig_4 : decode cX4_dig 4 = .ok (.aload_n 0, 1) := by decide +kernel
theorem dX4_dig_5 : decode cX4_dig 5 = .ok (.iload_n 1, 1) := by decide +kernel
theorem dX4_dig_6 : decode cX4_dig 6 = .ok (.invokevirtual 121, 3) := by decide +kernel
theorem dX4_dig_9 : decode cX4_dig 9 = .ok (.ifCond .eq 19, 3) := by decide +kernel
theorem dX4_dig_12 : decode cX4_dig 12 = .ok (.aload_n 0, 1) := by decide +kernel
theorem dX4_dig_13 : decode cX4_dig 13 = .ok (.getfield 22, 3) := by decide +kernel
theorem dX4_dig_16 : decode cX4_dig 16 = .ok (.iconst (-1), 1) := by decide +kernel
theorem dX4_dig_17 : decode cX4_dig 17 = .ok (.if_icmp .ne 11, 3) := by decide +kernel
theorem dX4_dig_20 : decode cX4_dig 20 = .ok (.aload_n 0, 1) := by decide +kernel
theorem dX4_dig_21 : decode cX4_dig 21 = .ok (.iload_n 1, 1) := by decide +kernel
theorem dX4_dig_22 : decode cX4_dig 22 = .ok (.invokevirtual 124, 3) := by decide +kernel
theorem dX4_dig_25 : decode cX4_dig 25 = .ok (.goto 4, 3) := by decide +kernel
theorem dX4_dig_28 : decode cX4_dig 28 = .ok (.iconst (-1), 1) := by decide +kernel
theorem dX4_dig_29 : decode cX4_dig 29 = .ok (.istore_n 2, 1) := by decide +kernel
theorem dX4_dig_30 : decode cX4_dig 30 = .ok (.aload_n 0, 1) := by decide +kernel
theorem dX4_dig_31 : decode cX4_dig 31 = .ok (.aload_n 0, 1) := by decide +kernel
theorem dX4_dig_32 : decode cX4_dig 32 = .ok (.iload_n 1, 1) := by decide +kernel
theorem dX4_dig_33 : decode cX4_dig 33 = .ok (.invokevirtual 121, 3) := by decide +kernel
theorem dX4_dig_36 : decode cX4_dig 36 = .ok (.ifCond .ne 7, 3) := by decide +kernel
theorem dX4_dig_39 : decode cX4_dig 39 = .ok (.iconst 1, 1) := by decide +kernel
theorem dX4_dig_40 : decode cX4_dig 40 = .ok (.goto 13, 3) := by decide +kernel
theorem dX4_dig_43 : decode cX4_dig 43 = .ok (.iload_n 2, 1) := by decide +kernel
theorem dX4_dig_44 : decode cX4_dig 44 = .ok (.iconst (-1), 1) := by decide +kernel
theorem dX4_dig_45 : decode cX4_dig 45 = .ok (.if_icmp .ne 7, 3) := by decide +kernel
theorem dX4_dig_48 : decode cX4_dig 48 = .ok (.iconst 2, 1) := by decide +kernel
theorem dX4_dig_49 : decode cX4_dig 49 = .ok (.goto 4, 3) := by decide +kernel
theorem dX4_dig_52 : decode cX4_dig 52 = .ok (.iconst 0, 1) := by decide +kernel
theorem dX4_dig_53 : decode cX4_dig 53 = .ok (.invokevirtual 99, 3) := by decide +kernel
theorem dX4_dig_56 : decode cX4_dig 56 = .ok (.ifCond .ne 5, 3) := by decide +kernel
theorem dX4_dig_59 : decode cX4_dig 59 = .ok (.iconst 0, 1) := by decide +kernel
theorem dX4_dig_60 : decode cX4_dig 60 = .ok (.ireturn, 1) := by decide +kernel
theorem dX4_dig_61 : decode cX4_dig 61 = .ok (.iconst 0, 1) := by decide +kernel
theorem dX4_dig_62 : decode cX4_dig 62 = .ok (.istore_n 3, 1) := by decide +kernel
theorem dX4_dig_63 : decode cX4_dig 63 = .ok (.iload_n 3, 1) := by decide +kernel
theorem dX4_dig_64 : decode cX4_dig 64 = .ok (.bipush 30, 2) := by decide +kernel
theorem dX4_dig_66 : decode cX4_dig 66 = .ok (.if_icmp .ge 21, 3) := by decide +kernel
theorem dX4_dig_69 : decode cX4_dig 69 = .ok (.aload_n 0, 1) := by decide +kernel
theorem dX4_dig_70 : decode cX4_dig 70 = .ok (.getfield 7, 3) := by decide +kernel
theorem dX4_dig_73 : decode cX4_dig 73 = .ok (.iload_n 3, 1) := by decide +kernel
theorem dX4_dig_74 : decode cX4_dig 74 = .ok (.aload_n 0, 1) := by decide +kernel
theorem dX4_dig_75 : decode cX4_dig 75 = .ok (.getfield 26, 3) := by decide +kernel
theorem dX4_dig_78 : decode cX4_dig 78 = .ok (.iload_n 3, 1) := by decide +kernel
theorem dX4_dig_79 : decode cX4_dig 79 = .ok (.iaload, 1) := by decide +kernel
theorem dX4_dig_80 : decode cX4_dig 80 = .ok (.iastore, 1) := by decide +kernel
theorem dX4_dig_81 : decode cX4_dig 81 = .ok (.iinc 3 1, 3) := by decide +kernel
theorem dX4_dig_84 : decode cX4_dig 84 = .ok (.goto (-21), 3) := by decide +kernel
theorem dX4_dig_87 : decode cX4_dig 87 = .ok (.iconst 0, 1) := by decide +kernel
theorem dX4_dig_88 : decode cX4_dig 88 = .ok (.istore_n 3, 1) := by decide +kernel
theorem dX4_dig_89 : decode cX4_dig 89 = .ok (.iload_n 3, 1) := by decide +kernel
theorem dX4_dig_90 : decode cX4_dig 90 = .ok (.bipush 6, 2) := by decide +kernel
theorem dX4_dig_92 : decode cX4_dig 92 = .ok (.if_icmp .ge 21, 3) := by decide +kernel
theorem dX4_dig_95 : decode cX4_dig 95 = .ok (.aload_n 0, 1) := by decide +kernel
theorem dX4_dig_96 : decode cX4_dig 96 = .ok (.getfield 13, 3) := by decide +kernel
theorem dX4_dig_99 : decode cX4_dig 99 = .ok (.iload_n 3, 1) := by decide +kernel
theorem dX4_dig_100 : decode cX4_dig 100 = .ok (.aload_n 0, 1) := by decide +kernel
theorem dX4_dig_101 : decode cX4_dig 101 = .ok (.getfield 29, 3) := by decide +kernel
theorem dX4_dig_104 : decode cX4_dig 104 = .ok (.iload_n 3, 1) := by decide +kernel
theorem dX4_dig_105 : decode cX4_dig 105 = .ok (.iaload, 1) := by decide +kernel
theorem dX4_dig_106 : decode cX4_dig 106 = .ok (.iastore, 1) := by decide +kernel
theorem dX4_dig_107 : decode cX4_dig 107 = .ok (.iinc 3 1, 3) := by decide +kernel
theorem dX4_dig_110 : decode cX4_dig 110 = .ok (.goto (-21), 3) := by decide +kernel
theorem dX4_dig_113 : decode cX4_dig 113 = .ok (.aload_n 0, 1) := by decide +kernel
theorem dX4_dig_114 : decode cX4_dig 114 = .ok (.iload_n 1, 1) := by decide +kernel
theorem dX4_dig_115 : decode cX4_dig 115 = .ok (.putfield 22, 3) := by decide +kernel
theorem dX4_dig_118 : decode cX4_dig 118 = .ok (.aload_n 0, 1) := by decide +kernel
theorem dX4_dig_119 : decode cX4_dig 119 = .ok (.dup, 1) := by decide +kernel
theorem dX4_dig_120 : decode cX4_dig 120 = .ok (.getfield 109, 3) := by decide +kernel
theorem dX4_dig_123 : decode cX4_dig 123 = .ok (.iload_n 2, 1) := by decide +kernel
theorem dX4_dig_124 : decode cX4_dig 124 = .ok (.iadd, 1) := by decide +kernel
theorem dX4_dig_125 : decode cX4_dig 125 = .ok (.putfield 109, 3) := by decide +kernel
theorem dX4_dig_128 : decode cX4_dig 128 = .ok (.aload_n 0, 1) := by decide +kernel
theorem dX4_dig_129 : decode cX4_dig 129 = .ok (.invokevirtual 106, 3) := by decide +kernel
theorem dX4_dig_132 : decode cX4_dig 132 = .ok (.iload_n 2, 1) := by decide +kernel
theorem dX4_dig_133 : decode cX4_dig 133 = .ok (.ireturn, 1) := by decide +kernel
theorem dX4_crane_0 : decode cX4_crane 0 = .ok (.aload_n 0, 1) := by decide +kernel
theorem dX4_crane_1 : decode cX4_crane 1 = .ok (.iconst 0, 1) := by decide +kernel
theorem dX4_crane_2 : decode cX4_crane 2 = .ok (.putfield 54, 3) := by decide +kernel
theorem dX4_crane_5 : decode cX4_crane 5 = .ok (.aload_n 0, 1) := by decide +kernel
theorem dX4_crane_6 : decode cX4_crane 6 = .ok (.getfield 22, 3) := by decide +kernel
theorem dX4_crane_9 : decode cX4_crane 9 = .ok (.ireturn, 1) := by decide +kernel
theorem dX4_height_0 : decode cX4_height 0 = .ok (.aload_n 0, 1) := by decide +kernel
theorem dX4_height_1 : decode cX4_height 1 = .ok (.iload_n 1, 1) := by decide +kernel
theorem dX4_height_2 : decode cX4_height 2 = .ok (.invokestatic 92, 3) := by decide +kernel
theorem dX4_height_5 : decode cX4_height 5 = .ok (.ifCond .eq 7, 3) := by decide +kernel
theorem dX4_height_8 : decode cX4_height 8 = .ok (.iconst 0, 1) := by decide +kernel
theorem dX4_height_9 : decode cX4_height 9 = .ok (.goto 4, 3) := by decide +kernel
theorem dX4_height_12 : decode cX4_height 12 = .ok (.iconst 1, 1) := by decide +kernel
theorem dX4_height_13 : decode cX4_height 13 = .ok (.invokevirtual 99, 3) := by decide +kernel
theorem dX4_height_16 : decode cX4_height 16 = .ok (.ifCond .eq 12, 3) := by decide +kernel
theorem dX4_height_19 : decode cX4_height 19 = .ok (.aload_n 0, 1) := by decide +kernel
theorem dX4_height_20 : decode cX4_height 20 = .ok (.getfield 13, 3) := by decide +kernel
theorem dX4_height_23 : decode cX4_height 23 = .ok (.iload_n 1, 1) := by decide +kernel
theorem dX4_height_24 : decode cX4_height 24 = .ok (.iaload, 1) := by decide +kernel
theorem dX4_height_25 : decode cX4_height 25 = .ok (.goto 4, 3) := by decide +kernel
theorem dX4_height_28 : decode cX4_height 28 = .ok (.iconst 0, 1) := by decide +kernel
theorem dX4_height_29 : decode cX4_height 29 = .ok (.ireturn, 1) := by decide +kernel
theorem dX4_at_0 : decode cX4_at 0 = .ok (.aload_n 0, 1) := by decide +kernel
theorem dX4_at_1 : decode cX4_at 1 = .ok (.iload_n 1, 1) := by decide +kernel
theorem dX4_at_2 : decode cX4_at 2 = .ok (.invokestatic 92, 3) := by decide +kernel
theorem dX4_at_5 : decode cX4_at 5 = .ok (.ifCond .eq 16, 3) := by decide +kernel
theorem dX4_at_8 : decode cX4_at 8 = .ok (.iload_n 2, 1) := by decide +kernel
theorem dX4_at_9 : decode cX4_at 9 = .ok (.iconst 0, 1) := by decide +kernel
theorem dX4_at_10 : decode cX4_at 10 = .ok (.iconst 4, 1) := by decide +kernel
theorem dX4_at_11 : decode cX4_at 11 = .ok (.invokestatic 57, 3) := by decide +kernel
theorem dX4_at_14 : decode cX4_at 14 = .ok (.ifCond .eq 7, 3) := by decide +kernel
theorem dX4_at_17 : decode cX4_at 17 = .ok (.iconst 0, 1) := by decide +kernel
theorem dX4_at_18 : decode cX4_at 18 = .ok (.goto 4, 3) := by decide +kernel
theorem dX4_at_21 : decode cX4_at 21 = .ok (.iconst 1, 1) := by decide +kernel
theorem dX4_at_22 : decode cX4_at 22 = .ok (.invokevirtual 99, 3) := by decide +kernel
theorem dX4_at_25 : decode cX4_at 25 = .ok (.ifCond .ne 5, 3) := by decide +kernel
theorem dX4_at_28 : decode cX4_at 28 = .ok (.iconst 0, 1) := by decide +kernel
theorem dX4_at_29 : decode cX4_at 29 = .ok (.ireturn, 1) := by decide +kernel
theorem dX4_at_30 : decode cX4_at 30 = .ok (.iload_n 2, 1) := by decide +kernel
theorem dX4_at_31 : decode cX4_at 31 = .ok (.aload_n 0, 1) := by decide +kernel
theorem dX4_at_32 : decode cX4_at 32 = .ok (.getfield 13, 3) := by decide +kernel
theorem dX4_at_35 : decode cX4_at 35 = .ok (.iload_n 1, 1) := by decide +kernel
theorem dX4_at_36 : decode cX4_at 36 = .ok (.iaload, 1) := by decide +kernel
theorem dX4_at_37 : decode cX4_at 37 = .ok (.if_icmp .ge 16, 3) := by decide +kernel
theorem dX4_at_40 : decode cX4_at 40 = .ok (.aload_n 0, 1) := by decide +kernel
theorem dX4_at_41 : decode cX4_at 41 = .ok (.getfield 7, 3) := by decide +kernel
theorem dX4_at_44 : decode cX4_at 44 = .ok (.iconst 5, 1) := by decide +kernel
theorem dX4_at_45 : decode cX4_at 45 = .ok (.iload_n 1, 1) := by decide +kernel
theorem dX4_at_46 : decode cX4_at 46 = .ok (.imul, 1) := by decide +kernel
theorem dX4_at_47 : decode cX4_at 47 = .ok (.iload_n 2, 1) := by decide +kernel
theorem dX4_at_48 : decode cX4_at 48 = .ok (.iadd, 1) := by decide +kernel
theorem dX4_at_49 : decode cX4_at 49 = .ok (.iaload, 1) := by decide +kernel
theorem dX4_at_50 : decode cX4_at 50 = .ok (.goto 4, 3) := by decide +kernel
theorem dX4_at_53 : decode cX4_at 53 = .ok (.iconst (-1), 1) := by decide +kernel
theorem dX4_at_54 : decode cX4_at 54 = .ok (.ireturn, 1) := by decide +kernel
theorem dX4_stackOf_0 : decode cX4_stackOf 0 = .ok (.aload_n 0, 1) := by decide +kernel
theorem dX4_stackOf_1 : decode cX4_stackOf 1 = .ok (.aload_n 0, 1) := by decide +kernel
theorem dX4_stackOf_2 : decode cX4_stackOf 2 = .ok (.iload_n 1, 1) := by decide +kernel
theorem dX4_stackOf_3 : decode cX4_stackOf 3 = .ok (.invokevirtual 121, 3) := by decide +kernel
theorem dX4_stackOf_6 : decode cX4_stackOf 6 = .ok (.ifCond .eq 7, 3) := by decide +kernel
theorem dX4_stackOf_9 : decode cX4_stackOf 9 = .ok (.iconst 0, 1) := by decide +kernel
theorem dX4_stackOf_10 : decode cX4_stackOf 10 = .ok (.goto 4, 3) := by decide +kernel
theorem dX4_stackOf_13 : decode cX4_stackOf 13 = .ok (.iconst 1, 1) := by decide +kernel
theorem dX4_stackOf_14 : decode cX4_stackOf 14 = .ok (.invokevirtual 99, 3) := by decide +kernel
theorem dX4_stackOf_17 : decode cX4_stackOf 17 = .ok (.ifCond .ne 5, 3) := by decide +kernel
theorem dX4_stackOf_20 : decode cX4_stackOf 20 = .ok (.iconst 0, 1) := by decide +kernel
theorem dX4_stackOf_21 : decode cX4_stackOf 21 = .ok (.ireturn, 1) := by decide +kernel
theorem dX4_stackOf_22 : decode cX4_stackOf 22 = .ok (.aload_n 0, 1) := by decide +kernel
theorem dX4_stackOf_23 : decode cX4_stackOf 23 = .ok (.invokevirtual 118, 3) := by decide +kernel
theorem dX4_stackOf_26 : decode cX4_stackOf 26 = .ok (.aload_n 0, 1) := by decide +kernel
theorem dX4_stackOf_27 : decode cX4_stackOf 27 = .ok (.iload_n 1, 1) := by decide +kernel
theorem dX4_stackOf_28 : decode cX4_stackOf 28 = .ok (.invokevirtual 112, 3) := by decide +kernel
theorem dX4_stackOf_31 : decode cX4_stackOf 31 = .ok (.ireturn, 1) := by decide +kernel
theorem dX4_lifts_0 : decode cX4_lifts 0 = .ok (.aload_n 0, 1) := by decide +kernel
theorem dX4_lifts_1 : decode cX4_lifts 1 = .ok (.iconst 0, 1) := by decide +kernel
theorem dX4_lifts_2 : decode cX4_lifts 2 = .ok (.putfield 54, 3) := by decide +kernel
theorem dX4_lifts_5 : decode cX4_lifts 5 = .ok (.aload_n 0, 1) := by decide +kernel
theorem dX4_lifts_6 : decode cX4_lifts 6 = .ok (.getfield 109, 3) := by decide +kernel
theorem dX4_lifts_9 : decode cX4_lifts 9 = .ok (.ireturn, 1) := by decide +kernel
theorem dX4_member_0 : decode cX4_member 0 = .ok (.iload_n 1, 1) := by decide +kernel
theorem dX4_member_1 : decode cX4_member 1 = .ok (.istore_n 2, 1) := by decide +kernel
theorem dX4_member_2 : decode cX4_member 2 = .ok (.iconst 0, 1) := by decide +kernel
theorem dX4_member_3 : decode cX4_member 3 = .ok (.istore_n 3, 1) := by decide +kernel
theorem dX4_member_4 : decode cX4_member 4 = .ok (.iload_n 3, 1) := by decide +kernel
theorem dX4_member_5 : decode cX4_member 5 = .ok (.bipush 30, 2) := by decide +kernel
theorem dX4_member_7 : decode cX4_member 7 = .ok (.if_icmp .ge 27, 3) := by decide +kernel
theorem dX4_member_10 : decode cX4_member 10 = .ok (.iload_n 0, 1) := by decide +kernel
theorem dX4_member_11 : decode cX4_member 11 = .ok (.iload_n 3, 1) := by decide +kernel
theorem dX4_member_12 : decode cX4_member 12 = .ok (.ishr, 1) := by decide +kernel
theorem dX4_member_13 : decode cX4_member 13 = .ok (.iconst 1, 1) := by decide +kernel
theorem dX4_member_14 : decode cX4_member 14 = .ok (.iand, 1) := by decide +kernel
theorem dX4_member_15 : decode cX4_member 15 = .ok (.iconst 1, 1) := by decide +kernel
theorem dX4_member_16 : decode cX4_member 16 = .ok (.if_icmp .ne 12, 3) := by decide +kernel
theorem dX4_member_19 : decode cX4_member 19 = .ok (.iload_n 2, 1) := by decide +kernel
theorem dX4_member_20 : decode cX4_member 20 = .ok (.ifCond .ne 5, 3) := by decide +kernel
theorem dX4_member_23 : decode cX4_member 23 = .ok (.iload_n 3, 1) := by decide +kernel
theorem dX4_member_24 : decode cX4_member 24 = .ok (.ireturn, 1) := by decide +kernel
theorem dX4_member_25 : decode cX4_member 25 = .ok (.iinc 2 (-1), 3) := by decide +kernel
theorem dX4_member_28 : decode cX4_member 28 = .ok (.iinc 3 1, 3) := by decide +kernel
theorem dX4_member_31 : decode cX4_member 31 = .ok (.goto (-27), 3) := by decide +kernel
theorem dX4_member_34 : decode cX4_member 34 = .ok (.iconst (-1), 1) := by decide +kernel
theorem dX4_member_35 : decode cX4_member 35 = .ok (.ireturn, 1) := by decide +kernel
theorem dX4_bits_0 : decode cX4_bits 0 = .ok (.iconst 0, 1) := by decide +kernel
theorem dX4_bits_1 : decode cX4_bits 1 = .ok (.istore_n 1, 1) := by decide +kernel
theorem dX4_bits_2 : decode cX4_bits 2 = .ok (.iconst 0, 1) := by decide +kernel
theorem dX4_bits_3 : decode cX4_bits 3 = .ok (.istore_n 2, 1) := by decide +kernel
theorem dX4_bits_4 : decode cX4_bits 4 = .ok (.iload_n 2, 1) := by decide +kernel
theorem dX4_bits_5 : decode cX4_bits 5 = .ok (.bipush 30, 2) := by decide +kernel
theorem dX4_bits_7 : decode cX4_bits 7 = .ok (.if_icmp .ge 17, 3) := by decide +kernel
theorem dX4_bits_10 : decode cX4_bits 10 = .ok (.iload_n 1, 1) := by decide +kernel
theorem dX4_bits_11 : decode cX4_bits 11 = .ok (.iload_n 0, 1) := by decide +kernel
theorem dX4_bits_12 : decode cX4_bits 12 = .ok (.iload_n 2, 1) := by decide +kernel
theorem dX4_bits_13 : decode cX4_bits 13 = .ok (.ishr, 1) := by decide +kernel
theorem dX4_bits_14 : decode cX4_bits 14 = .ok (.iconst 1, 1) := by decide +kernel
theorem dX4_bits_15 : decode cX4_bits 15 = .ok (.iand, 1) := by decide +kernel
theorem dX4_bits_16 : decode cX4_bits 16 = .ok (.iadd, 1) := by decide +kernel
theorem dX4_bits_17 : decode cX4_bits 17 = .ok (.istore_n 1, 1) := by decide +kernel
theorem dX4_bits_18 : decode cX4_bits 18 = .ok (.iinc 2 1, 3) := by decide +kernel
theorem dX4_bits_21 : decode cX4_bits 21 = .ok (.goto (-17), 3) := by decide +kernel
theorem dX4_bits_24 : decode cX4_bits 24 = .ok (.iload_n 1, 1) := by decide +kernel
theorem dX4_bits_25 : decode cX4_bits 25 = .ok (.ireturn, 1) := by decide +kernel
theorem dX4_isSet_0 : decode cX4_isSet 0 = .ok (.aload_n 0, 1) := by decide +kernel
theorem dX4_isSet_1 : decode cX4_isSet 1 = .ok (.invokevirtual 118, 3) := by decide +kernel
theorem dX4_isSet_4 : decode cX4_isSet 4 = .ok (.iload_n 1, 1) := by decide +kernel
theorem dX4_isSet_5 : decode cX4_isSet 5 = .ok (.ifCond .le 25, 3) := by decide +kernel
theorem dX4_isSet_8 : decode cX4_isSet 8 = .ok (.iload_n 1, 1) := by decide +kernel
theorem dX4_isSet_9 : decode cX4_isSet 9 = .ok (.ldc 127, 2) := by decide +kernel
theorem dX4_isSet_11 : decode cX4_isSet 11 = .ok (.if_icmp .ge 19, 3) := by decide +kernel
theorem dX4_isSet_14 : decode cX4_isSet 14 = .ok (.iload_n 1, 1) := by decide +kernel
theorem dX4_isSet_15 : decode cX4_isSet 15 = .ok (.invokestatic 128, 3) := by decide +kernel
theorem dX4_isSet_18 : decode cX4_isSet 18 = .ok (.iconst 1, 1) := by decide +kernel
theorem dX4_isSet_19 : decode cX4_isSet 19 = .ok (.iconst 4, 1) := by decide +kernel
theorem dX4_isSet_20 : decode cX4_isSet 20 = .ok (.invokestatic 57, 3) := by decide +kernel
theorem dX4_isSet_23 : decode cX4_isSet 23 = .ok (.ifCond .eq 7, 3) := by decide +kernel
theorem dX4_isSet_26 : decode cX4_isSet 26 = .ok (.iconst 1, 1) := by decide +kernel
theorem dX4_isSet_27 : decode cX4_isSet 27 = .ok (.goto 4, 3) := by decide +kernel
theorem dX4_isSet_30 : decode cX4_isSet 30 = .ok (.iconst 0, 1) := by decide +kernel
theorem dX4_isSet_31 : decode cX4_isSet 31 = .ok (.istore_n 2, 1) := by decide +kernel
theorem dX4_isSet_32 : decode cX4_isSet 32 = .ok (.iconst 0, 1) := by decide +kernel
theorem dX4_isSet_33 : decode cX4_isSet 33 = .ok (.istore_n 3, 1) := by decide +kernel
theorem dX4_isSet_34 : decode cX4_isSet 34 = .ok (.iload_n 3, 1) := by decide +kernel
theorem dX4_isSet_35 : decode cX4_isSet 35 = .ok (.bipush 30, 2) := by decide +kernel
theorem dX4_isSet_37 : decode cX4_isSet 37 = .ok (.if_icmp .ge 36, 3) := by decide +kernel
theorem dX4_isSet_40 : decode cX4_isSet 40 = .ok (.iload_n 2, 1) := by decide +kernel
theorem dX4_isSet_41 : decode cX4_isSet 41 = .ok (.ifCond .eq 32, 3) := by decide +kernel
theorem dX4_isSet_44 : decode cX4_isSet 44 = .ok (.iload_n 1, 1) := by decide +kernel
theorem dX4_isSet_45 : decode cX4_isSet 45 = .ok (.iload_n 3, 1) := by decide +kernel
theorem dX4_isSet_46 : decode cX4_isSet 46 = .ok (.ishr, 1) := by decide +kernel
theorem dX4_isSet_47 : decode cX4_isSet 47 = .ok (.iconst 1, 1) := by decide +kernel
theorem dX4_isSet_48 : decode cX4_isSet 48 = .ok (.iand, 1) := by decide +kernel
theorem dX4_isSet_49 : decode cX4_isSet 49 = .ok (.ifCond .eq 12, 3) := by decide +kernel
theorem dX4_isSet_52 : decode cX4_isSet 52 = .ok (.aload_n 0, 1) := by decide +kernel
theorem dX4_isSet_53 : decode cX4_isSet 53 = .ok (.iload_n 3, 1) := by decide +kernel
theorem dX4_isSet_54 : decode cX4_isSet 54 = .ok (.invokevirtual 112, 3) := by decide +kernel
theorem dX4_isSet_57 : decode cX4_isSet 57 = .ok (.iconst (-1), 1) := by decide +kernel
theorem dX4_isSet_58 : decode cX4_isSet 58 = .ok (.if_icmp .eq 7, 3) := by decide +kernel
theorem dX4_isSet_61 : decode cX4_isSet 61 = .ok (.iconst 1, 1) := by decide +kernel
theorem dX4_isSet_62 : decode cX4_isSet 62 = .ok (.goto 4, 3) := by decide +kernel
theorem dX4_isSet_65 : decode cX4_isSet 65 = .ok (.iconst 0, 1) := by decide +kernel
theorem dX4_isSet_66 : decode cX4_isSet 66 = .ok (.istore_n 2, 1) := by decide +kernel
theorem dX4_isSet_67 : decode cX4_isSet 67 = .ok (.iinc 3 1, 3) := by decide +kernel
theorem dX4_isSet_70 : decode cX4_isSet 70 = .ok (.goto (-36), 3) := by decide +kernel
theorem dX4_isSet_73 : decode cX4_isSet 73 = .ok (.iload_n 2, 1) := by decide +kernel
theorem dX4_isSet_74 : decode cX4_isSet 74 = .ok (.ireturn, 1) := by decide +kernel
theorem dX4_liftsBy_0 : decode cX4_liftsBy 0 = .ok (.aload_n 0, 1) := by decide +kernel
theorem dX4_liftsBy_1 : decode cX4_liftsBy 1 = .ok (.invokevirtual 118, 3) := by decide +kernel
theorem dX4_liftsBy_4 : decode cX4_liftsBy 4 = .ok (.iconst 0, 1) := by decide +kernel
theorem dX4_liftsBy_5 : decode cX4_liftsBy 5 = .ok (.istore 4, 2) := by decide +kernel
theorem dX4_liftsBy_7 : decode cX4_liftsBy 7 = .ok (.iconst 0, 1) := by decide +kernel
theorem dX4_liftsBy_8 : decode cX4_liftsBy 8 = .ok (.istore 5, 2) := by decide +kernel
theorem dX4_liftsBy_10 : decode cX4_liftsBy 10 = .ok (.iload_n 3, 1) := by decide +kernel
theorem dX4_liftsBy_11 : decode cX4_liftsBy 11 = .ok (.istore 6, 2) := by decide +kernel
theorem dX4_liftsBy_13 : decode cX4_liftsBy 13 = .ok (.iconst 0, 1) := by decide +kernel
theorem dX4_liftsBy_14 : decode cX4_liftsBy 14 = .ok (.istore 7, 2) := by decide +kernel
theorem dX4_liftsBy_16 : decode cX4_liftsBy 16 = .ok (.iload 7, 2) := by decide +kernel
theorem dX4_liftsBy_18 : decode cX4_liftsBy 18 = .ok (.iload_n 2, 1) := by decide +kernel
theorem dX4_liftsBy_19 : decode cX4_liftsBy 19 = .ok (.if_icmp .ge 89, 3) := by decide +kernel
theorem dX4_liftsBy_22 : decode cX4_liftsBy 22 = .ok (.iload 6, 2) := by decide +kernel
theorem dX4_liftsBy_24 : decode cX4_liftsBy 24 = .ok (.iconst 4, 1) := by decide +kernel
theorem dX4_liftsBy_25 : decode cX4_liftsBy 25 = .ok (.irem, 1) := by decide +kernel
theorem dX4_liftsBy_26 : decode cX4_liftsBy 26 = .ok (.istore 8, 2) := by decide +kernel
theorem dX4_liftsBy_28 : decode cX4_liftsBy 28 = .ok (.iload 6, 2) := by decide +kernel
theorem dX4_liftsBy_30 : decode cX4_liftsBy 30 = .ok (.iconst 4, 1) := by decide +kernel
theorem dX4_liftsBy_31 : decode cX4_liftsBy 31 = .ok (.idiv, 1) := by decide +kernel
theorem dX4_liftsBy_32 : decode cX4_liftsBy 32 = .ok (.istore 6, 2) := by decide +kernel
theorem dX4_liftsBy_34 : decode cX4_liftsBy 34 = .ok (.iload 8, 2) := by decide +kernel
theorem dX4_liftsBy_36 : decode cX4_liftsBy 36 = .ok (.iload_n 2, 1) := by decide +kernel
theorem dX4_liftsBy_37 : decode cX4_liftsBy 37 = .ok (.if_icmp .ge 17, 3) := by decide +kernel
theorem dX4_liftsBy_40 : decode cX4_liftsBy 40 = .ok (.iload 5, 2) := by decide +kernel
theorem dX4_liftsBy_42 : decode cX4_liftsBy 42 = .ok (.iload 8, 2) := by decide +kernel
theorem dX4_liftsBy_44 : decode cX4_liftsBy 44 = .ok (.ishr, 1) := by decide +kernel
theorem dX4_liftsBy_45 : decode cX4_liftsBy 45 = .ok (.iconst 1, 1) := by decide +kernel
theorem dX4_liftsBy_46 : decode cX4_liftsBy 46 = .ok (.iand, 1) := by decide +kernel
theorem dX4_liftsBy_47 : decode cX4_liftsBy 47 = .ok (.ifCond .ne 7, 3) := by decide +kernel
theorem dX4_liftsBy_50 : decode cX4_liftsBy 50 = .ok (.iconst 1, 1) := by decide +kernel
theorem dX4_liftsBy_51 : decode cX4_liftsBy 51 = .ok (.goto 4, 3) := by decide +kernel
theorem dX4_liftsBy_54 : decode cX4_liftsBy 54 = .ok (.iconst 0, 1) := by decide +kernel
theorem dX4_liftsBy_55 : decode cX4_liftsBy 55 = .ok (.istore 9, 2) := by decide +kernel
theorem dX4_liftsBy_57 : decode cX4_liftsBy 57 = .ok (.iload 9, 2) := by decide +kernel
theorem dX4_liftsBy_59 : decode cX4_liftsBy 59 = .ok (.ifCond .eq 16, 3) := by decide +kernel
theorem dX4_liftsBy_62 : decode cX4_liftsBy 62 = .ok (.aload_n 0, 1) := by decide +kernel
theorem dX4_liftsBy_63 : decode cX4_liftsBy 63 = .ok (.iload_n 1, 1) := by decide +kernel
theorem dX4_liftsBy_64 : decode cX4_liftsBy 64 = .ok (.iload 8, 2) := by decide +kernel
theorem dX4_liftsBy_66 : decode cX4_liftsBy 66 = .ok (.invokestatic 131, 3) := by decide +kernel
theorem dX4_liftsBy_69 : decode cX4_liftsBy 69 = .ok (.invokevirtual 124, 3) := by decide +kernel
theorem dX4_liftsBy_72 : decode cX4_liftsBy 72 = .ok (.goto 4, 3) := by decide +kernel
theorem dX4_liftsBy_75 : decode cX4_liftsBy 75 = .ok (.iconst (-1), 1) := by decide +kernel
theorem dX4_liftsBy_76 : decode cX4_liftsBy 76 = .ok (.istore 10, 2) := by decide +kernel
theorem dX4_liftsBy_78 : decode cX4_liftsBy 78 = .ok (.iload 10, 2) := by decide +kernel
theorem dX4_liftsBy_80 : decode cX4_liftsBy 80 = .ok (.iconst (-1), 1) := by decide +kernel
theorem dX4_liftsBy_81 : decode cX4_liftsBy 81 = .ok (.if_icmp .ne 5, 3) := by decide +kernel
theorem dX4_liftsBy_84 : decode cX4_liftsBy 84 = .ok (.iconst (-1), 1) := by decide +kernel
theorem dX4_liftsBy_85 : decode cX4_liftsBy 85 = .ok (.ireturn, 1) := by decide +kernel
theorem dX4_liftsBy_86 : decode cX4_liftsBy 86 = .ok (.iload 5, 2) := by decide +kernel
theorem dX4_liftsBy_88 : decode cX4_liftsBy 88 = .ok (.iconst 1, 1) := by decide +kernel
theorem dX4_liftsBy_89 : decode cX4_liftsBy 89 = .ok (.iload 8, 2) := by decide +kernel
theorem dX4_liftsBy_91 : decode cX4_liftsBy 91 = .ok (.ishl, 1) := by decide +kernel
theorem dX4_liftsBy_92 : decode cX4_liftsBy 92 = .ok (.ior, 1) := by decide +kernel
theorem dX4_liftsBy_93 : decode cX4_liftsBy 93 = .ok (.istore 5, 2) := by decide +kernel
theorem dX4_liftsBy_95 : decode cX4_liftsBy 95 = .ok (.iload 4, 2) := by decide +kernel
theorem dX4_liftsBy_97 : decode cX4_liftsBy 97 = .ok (.iload 10, 2) := by decide +kernel
theorem dX4_liftsBy_99 : decode cX4_liftsBy 99 = .ok (.iadd, 1) := by decide +kernel
theorem dX4_liftsBy_100 : decode cX4_liftsBy 100 = .ok (.istore 4, 2) := by decide +kernel
theorem dX4_liftsBy_102 : decode cX4_liftsBy 102 = .ok (.iinc 7 1, 3) := by decide +kernel
theorem dX4_liftsBy_105 : decode cX4_liftsBy 105 = .ok (.goto (-89), 3) := by decide +kernel
theorem dX4_liftsBy_108 : decode cX4_liftsBy 108 = .ok (.iload 4, 2) := by decide +kernel
theorem dX4_liftsBy_110 : decode cX4_liftsBy 110 = .ok (.ireturn, 1) := by decide +kernel
theorem dX4_fewestLifts_0 : decode cX4_fewestLifts 0 = .ok (.aload_n 0, 1) := by decide +kernel
theorem dX4_fewestLifts_1 : decode cX4_fewestLifts 1 = .ok (.aload_n 0, 1) := by decide +kernel
theorem dX4_fewestLifts_2 : decode cX4_fewestLifts 2 = .ok (.iload_n 1, 1) := by decide +kernel
theorem dX4_fewestLifts_3 : decode cX4_fewestLifts 3 = .ok (.invokevirtual 135, 3) := by decide +kernel
theorem dX4_fewestLifts_6 : decode cX4_fewestLifts 6 = .ok (.ifCond .ne 7, 3) := by decide +kernel
theorem dX4_fewestLifts_9 : decode cX4_fewestLifts 9 = .ok (.iconst 1, 1) := by decide +kernel
theorem dX4_fewestLifts_10 : decode cX4_fewestLifts 10 = .ok (.goto 16, 3) := by decide +kernel
theorem dX4_fewestLifts_13 : decode cX4_fewestLifts 13 = .ok (.aload_n 0, 1) := by decide +kernel
theorem dX4_fewestLifts_14 : decode cX4_fewestLifts 14 = .ok (.getfield 22, 3) := by decide +kernel
theorem dX4_fewestLifts_17 : decode cX4_fewestLifts 17 = .ok (.iconst (-1), 1) := by decide +kernel
theorem dX4_fewestLifts_18 : decode cX4_fewestLifts 18 = .ok (.if_icmp .eq 7, 3) := by decide +kernel
theorem dX4_fewestLifts_21 : decode cX4_fewestLifts 21 = .ok (.iconst 2, 1) := by decide +kernel
theorem dX4_fewestLifts_22 : decode cX4_fewestLifts 22 = .ok (.goto 4, 3) := by decide +kernel
theorem dX4_fewestLifts_25 : decode cX4_fewestLifts 25 = .ok (.iconst 0, 1) := by decide +kernel
theorem dX4_fewestLifts_26 : decode cX4_fewestLifts 26 = .ok (.invokevirtual 99, 3) := by decide +kernel
theorem dX4_fewestLifts_29 : decode cX4_fewestLifts 29 = .ok (.ifCond .ne 5, 3) := by decide +kernel
theorem dX4_fewestLifts_32 : decode cX4_fewestLifts 32 = .ok (.iconst 0, 1) := by decide +kernel
theorem dX4_fewestLifts_33 : decode cX4_fewestLifts 33 = .ok (.ireturn, 1) := by decide +kernel
theorem dX4_fewestLifts_34 : decode cX4_fewestLifts 34 = .ok (.iload_n 1, 1) := by decide +kernel
theorem dX4_fewestLifts_35 : decode cX4_fewestLifts 35 = .ok (.invokestatic 128, 3) := by decide +kernel
theorem dX4_fewestLifts_38 : decode cX4_fewestLifts 38 = .ok (.istore_n 2, 1) := by decide +kernel
theorem dX4_fewestLifts_39 : decode cX4_fewestLifts 39 = .ok (.iconst (-1), 1) := by decide +kernel
theorem dX4_fewestLifts_40 : decode cX4_fewestLifts 40 = .ok (.istore_n 3, 1) := by decide +kernel
theorem dX4_fewestLifts_41 : decode cX4_fewestLifts 41 = .ok (.iconst 0, 1) := by decide +kernel
theorem dX4_fewestLifts_42 : decode cX4_fewestLifts 42 = .ok (.istore 4, 2) := by decide +kernel
theorem dX4_fewestLifts_44 : decode cX4_fewestLifts 44 = .ok (.iload 4, 2) := by decide +kernel
theorem dX4_fewestLifts_46 : decode cX4_fewestLifts 46 = .ok (.iconst 1, 1) := by decide +kernel
theorem dX4_fewestLifts_47 : decode cX4_fewestLifts 47 = .ok (.iconst 2, 1) := by decide +kernel
theorem dX4_fewestLifts_48 : decode cX4_fewestLifts 48 = .ok (.iload_n 2, 1) := by decide +kernel
theorem dX4_fewestLifts_49 : decode cX4_fewestLifts 49 = .ok (.imul, 1) := by decide +kernel
theorem dX4_fewestLifts_50 : decode cX4_fewestLifts 50 = .ok (.ishl, 1) := by decide +kernel
theorem dX4_fewestLifts_51 : decode cX4_fewestLifts 51 = .ok (.if_icmp .ge 43, 3) := by decide +kernel
theorem dX4_fewestLifts_54 : decode cX4_fewestLifts 54 = .ok (.aload_n 0, 1) := by decide +kernel
theorem dX4_fewestLifts_55 : decode cX4_fewestLifts 55 = .ok (.iload_n 1, 1) := by decide +kernel
theorem dX4_fewestLifts_56 : decode cX4_fewestLifts 56 = .ok (.iload_n 2, 1) := by decide +kernel
theorem dX4_fewestLifts_57 : decode cX4_fewestLifts 57 = .ok (.iload 4, 2) := by decide +kernel
theorem dX4_fewestLifts_59 : decode cX4_fewestLifts 59 = .ok (.invokevirtual 138, 3) := by decide +kernel
theorem dX4_fewestLifts_62 : decode cX4_fewestLifts 62 = .ok (.istore 5, 2) := by decide +kernel
theorem dX4_fewestLifts_64 : decode cX4_fewestLifts 64 = .ok (.iload 5, 2) := by decide +kernel
theorem dX4_fewestLifts_66 : decode cX4_fewestLifts 66 = .ok (.iconst (-1), 1) := by decide +kernel
theorem dX4_fewestLifts_67 : decode cX4_fewestLifts 67 = .ok (.if_icmp .eq 19, 3) := by decide +kernel
theorem dX4_fewestLifts_70 : decode cX4_fewestLifts 70 = .ok (.iload_n 3, 1) := by decide +kernel
theorem dX4_fewestLifts_71 : decode cX4_fewestLifts 71 = .ok (.iconst (-1), 1) := by decide +kernel
theorem dX4_fewestLifts_72 : decode cX4_fewestLifts 72 = .ok (.if_icmp .eq 9, 3) := by decide +kernel
theorem dX4_fewestLifts_75 : decode cX4_fewestLifts 75 = .ok (.iload 5, 2) := by decide +kernel
theorem dX4_fewestLifts_77 : decode cX4_fewestLifts 77 = .ok (.iload_n 3, 1) := by decide +kernel
theorem dX4_fewestLifts_78 : decode cX4_fewestLifts 78 = .ok (.if_icmp .ge 8, 3) := by decide +kernel
theorem dX4_fewestLifts_81 : decode cX4_fewestLifts 81 = .ok (.iload 5, 2) := by decide +kernel
theorem dX4_fewestLifts_83 : decode cX4_fewestLifts 83 = .ok (.goto 4, 3) := by decide +kernel
theorem dX4_fewestLifts_86 : decode cX4_fewestLifts 86 = .ok (.iload_n 3, 1) := by decide +kernel
theorem dX4_fewestLifts_87 : decode cX4_fewestLifts 87 = .ok (.istore_n 3, 1) := by decide +kernel
theorem dX4_fewestLifts_88 : decode cX4_fewestLifts 88 = .ok (.iinc 4 1, 3) := by decide +kernel
theorem dX4_fewestLifts_91 : decode cX4_fewestLifts 91 = .ok (.goto (-47), 3) := by decide +kernel
theorem dX4_fewestLifts_94 : decode cX4_fewestLifts 94 = .ok (.iload_n 3, 1) := by decide +kernel
theorem dX4_fewestLifts_95 : decode cX4_fewestLifts 95 = .ok (.ireturn, 1) := by decide +kernel
theorem dX4_isLetter_0 : decode cX4_isLetter 0 = .ok (.iload_n 0, 1) := by decide +kernel
theorem dX4_isLetter_1 : decode cX4_isLetter 1 = .ok (.iconst 0, 1) := by decide +kernel
theorem dX4_isLetter_2 : decode cX4_isLetter 2 = .ok (.bipush 25, 2) := by decide +kernel
theorem dX4_isLetter_4 : decode cX4_isLetter 4 = .ok (.invokestatic 57, 3) := by decide +kernel
theorem dX4_isLetter_7 : decode cX4_isLetter 7 = .ok (.ireturn, 1) := by decide +kernel
theorem dX4_tell_0 : decode cX4_tell 0 = .ok (.iload_n 1, 1) := by decide +kernel
theorem dX4_tell_1 : decode cX4_tell 1 = .ok (.invokestatic 142, 3) := by decide +kernel
theorem dX4_tell_4 : decode cX4_tell 4 = .ok (.ifCond .eq 49, 3) := by decide +kernel
theorem dX4_tell_7 : decode cX4_tell 7 = .ok (.iload_n 2, 1) := by decide +kernel
theorem dX4_tell_8 : decode cX4_tell 8 = .ok (.invokestatic 142, 3) := by decide +kernel
theorem dX4_tell_11 : decode cX4_tell 11 = .ok (.ifCond .eq 42, 3) := by decide +kernel
theorem dX4_tell_14 : decode cX4_tell 14 = .ok (.iload_n 3, 1) := by decide +kernel
theorem dX4_tell_15 : decode cX4_tell 15 = .ok (.iconst (-1), 1) := by decide +kernel
theorem dX4_tell_16 : decode cX4_tell 16 = .ok (.if_icmp .ne 12, 3) := by decide +kernel
theorem dX4_tell_19 : decode cX4_tell 19 = .ok (.iload 4, 2) := by decide +kernel
theorem dX4_tell_21 : decode cX4_tell 21 = .ok (.iconst (-1), 1) := by decide +kernel
theorem dX4_tell_22 : decode cX4_tell 22 = .ok (.if_icmp .ne 31, 3) := by decide +kernel
theorem dX4_tell_25 : decode cX4_tell 25 = .ok (.goto 24, 3) := by decide +kernel
theorem dX4_tell_28 : decode cX4_tell 28 = .ok (.iload_n 3, 1) := by decide +kernel
theorem dX4_tell_29 : decode cX4_tell 29 = .ok (.invokestatic 142, 3) := by decide +kernel
theorem dX4_tell_32 : decode cX4_tell 32 = .ok (.ifCond .eq 21, 3) := by decide +kernel
theorem dX4_tell_35 : decode cX4_tell 35 = .ok (.iload 4, 2) := by decide +kernel
theorem dX4_tell_37 : decode cX4_tell 37 = .ok (.iconst (-1), 1) := by decide +kernel
theorem dX4_tell_38 : decode cX4_tell 38 = .ok (.if_icmp .eq 11, 3) := by decide +kernel
theorem dX4_tell_41 : decode cX4_tell 41 = .ok (.iload 4, 2) := by decide +kernel
theorem dX4_tell_43 : decode cX4_tell 43 = .ok (.invokestatic 142, 3) := by decide +kernel
theorem dX4_tell_46 : decode cX4_tell 46 = .ok (.ifCond .eq 7, 3) := by decide +kernel
theorem dX4_tell_49 : decode cX4_tell 49 = .ok (.iconst 1, 1) := by decide +kernel
theorem dX4_tell_50 : decode cX4_tell 50 = .ok (.goto 4, 3) := by decide +kernel
theorem dX4_tell_53 : decode cX4_tell 53 = .ok (.iconst 0, 1) := by decide +kernel
theorem dX4_tell_54 : decode cX4_tell 54 = .ok (.istore 5, 2) := by decide +kernel
theorem dX4_tell_56 : decode cX4_tell 56 = .ok (.aload_n 0, 1) := by decide +kernel
theorem dX4_tell_57 : decode cX4_tell 57 = .ok (.iload 5, 2) := by decide +kernel
theorem dX4_tell_59 : decode cX4_tell 59 = .ok (.ifCond .ne 7, 3) := by decide +kernel
theorem dX4_tell_62 : decode cX4_tell 62 = .ok (.iconst 1, 1) := by decide +kernel
theorem dX4_tell_63 : decode cX4_tell 63 = .ok (.goto 17, 3) := by decide +kernel
theorem dX4_tell_66 : decode cX4_tell 66 = .ok (.aload_n 0, 1) := by decide +kernel
theorem dX4_tell_67 : decode cX4_tell 67 = .ok (.getfield 79, 3) := by decide +kernel
theorem dX4_tell_70 : decode cX4_tell 70 = .ok (.bipush 8, 2) := by decide +kernel
theorem dX4_tell_72 : decode cX4_tell 72 = .ok (.if_icmp .ne 7, 3) := by decide +kernel
theorem dX4_tell_75 : decode cX4_tell 75 = .ok (.iconst 2, 1) := by decide +kernel
theorem dX4_tell_76 : decode cX4_tell 76 = .ok (.goto 4, 3) := by decide +kernel
theorem dX4_tell_79 : decode cX4_tell 79 = .ok (.iconst 0, 1) := by decide +kernel
theorem dX4_tell_80 : decode cX4_tell 80 = .ok (.invokevirtual 99, 3) := by decide +kernel
theorem dX4_tell_83 : decode cX4_tell 83 = .ok (.ifCond .ne 5, 3) := by decide +kernel
theorem dX4_tell_86 : decode cX4_tell 86 = .ok (.iconst 0, 1) := by decide +kernel
theorem dX4_tell_87 : decode cX4_tell 87 = .ok (.ireturn, 1) := by decide +kernel
theorem dX4_tell_88 : decode cX4_tell 88 = .ok (.aload_n 0, 1) := by decide +kernel
theorem dX4_tell_89 : decode cX4_tell 89 = .ok (.getfield 32, 3) := by decide +kernel
theorem dX4_tell_92 : decode cX4_tell 92 = .ok (.iconst 4, 1) := by decide +kernel
theorem dX4_tell_93 : decode cX4_tell 93 = .ok (.aload_n 0, 1) := by decide +kernel
theorem dX4_tell_94 : decode cX4_tell 94 = .ok (.getfield 79, 3) := by decide +kernel
theorem dX4_tell_97 : decode cX4_tell 97 = .ok (.imul, 1) := by decide +kernel
theorem dX4_tell_98 : decode cX4_tell 98 = .ok (.iload_n 1, 1) := by decide +kernel
theorem dX4_tell_99 : decode cX4_tell 99 = .ok (.iastore, 1) := by decide +kernel
theorem dX4_tell_100 : decode cX4_tell 100 = .ok (.aload_n 0, 1) := by decide +kernel
theorem dX4_tell_101 : decode cX4_tell 101 = .ok (.getfield 32, 3) := by decide +kernel
theorem dX4_tell_104 : decode cX4_tell 104 = .ok (.iconst 4, 1) := by decide +kernel
theorem dX4_tell_105 : decode cX4_tell 105 = .ok (.aload_n 0, 1) := by decide +kernel
theorem dX4_tell_106 : decode cX4_tell 106 = .ok (.getfield 79, 3) := by decide +kernel
theorem dX4_tell_109 : decode cX4_tell 109 = .ok (.imul, 1) := by decide +kernel
theorem dX4_tell_110 : decode cX4_tell 110 = .ok (.iconst 1, 1) := by decide +kernel
theorem dX4_tell_111 : decode cX4_tell 111 = .ok (.iadd, 1) := by decide +kernel
theorem dX4_tell_112 : decode cX4_tell 112 = .ok (.iload_n 2, 1) := by decide +kernel
theorem dX4_tell_113 : decode cX4_tell 113 = .ok (.iastore, 1) := by decide +kernel
theorem dX4_tell_114 : decode cX4_tell 114 = .ok (.aload_n 0, 1) := by decide +kernel
theorem dX4_tell_115 : decode cX4_tell 115 = .ok (.getfield 32, 3) := by decide +kernel
theorem dX4_tell_118 : decode cX4_tell 118 = .ok (.iconst 4, 1) := by decide +kernel
theorem dX4_tell_119 : decode cX4_tell 119 = .ok (.aload_n 0, 1) := by decide +kernel
theorem dX4_tell_120 : decode cX4_tell 120 = .ok (.getfield 79, 3) := by decide +kernel
theorem dX4_tell_123 : decode cX4_tell 123 = .ok (.imul, 1) := by decide +kernel
theorem dX4_tell_124 : decode cX4_tell 124 = .ok (.iconst 2, 1) := by decide +kernel
theorem dX4_tell_125 : decode cX4_tell 125 = .ok (.iadd, 1) := by decide +kernel
theorem dX4_tell_126 : decode cX4_tell 126 = .ok (.iload_n 3, 1) := by decide +kernel
theorem dX4_tell_127 : decode cX4_tell 127 = .ok (.iastore, 1) := by decide +kernel
theorem dX4_tell_128 : decode cX4_tell 128 = .ok (.aload_n 0, 1) := by decide +kernel
theorem dX4_tell_129 : decode cX4_tell 129 = .ok (.getfield 32, 3) := by decide +kernel
theorem dX4_tell_132 : decode cX4_tell 132 = .ok (.iconst 4, 1) := by decide +kernel
theorem dX4_tell_133 : decode cX4_tell 133 = .ok (.aload_n 0, 1) := by decide +kernel
theorem dX4_tell_134 : decode cX4_tell 134 = .ok (.getfield 79, 3) := by decide +kernel
theorem dX4_tell_137 : decode cX4_tell 137 = .ok (.imul, 1) := by decide +kernel
theorem dX4_tell_138 : decode cX4_tell 138 = .ok (.iconst 3, 1) := by decide +kernel
theorem dX4_tell_139 : decode cX4_tell 139 = .ok (.iadd, 1) := by decide +kernel
theorem dX4_tell_140 : decode cX4_tell 140 = .ok (.iload 4, 2) := by decide +kernel
theorem dX4_tell_142 : decode cX4_tell 142 = .ok (.iastore, 1) := by decide +kernel
theorem dX4_tell_143 : decode cX4_tell 143 = .ok (.aload_n 0, 1) := by decide +kernel
theorem dX4_tell_144 : decode cX4_tell 144 = .ok (.dup, 1) := by decide +kernel
theorem dX4_tell_145 : decode cX4_tell 145 = .ok (.getfield 79, 3) := by decide +kernel
theorem dX4_tell_148 : decode cX4_tell 148 = .ok (.iconst 1, 1) := by decide +kernel
theorem dX4_tell_149 : decode cX4_tell 149 = .ok (.iadd, 1) := by decide +kernel
theorem dX4_tell_150 : decode cX4_tell 150 = .ok (.putfield 79, 3) := by decide +kernel
theorem dX4_tell_153 : decode cX4_tell 153 = .ok (.aload_n 0, 1) := by decide +kernel
theorem dX4_tell_154 : decode cX4_tell 154 = .ok (.invokevirtual 106, 3) := by decide +kernel
theorem dX4_tell_157 : decode cX4_tell 157 = .ok (.aload_n 0, 1) := by decide +kernel
theorem dX4_tell_158 : decode cX4_tell 158 = .ok (.getfield 79, 3) := by decide +kernel
theorem dX4_tell_161 : decode cX4_tell 161 = .ok (.iconst 1, 1) := by decide +kernel
theorem dX4_tell_162 : decode cX4_tell 162 = .ok (.isub, 1) := by decide +kernel
theorem dX4_tell_163 : decode cX4_tell 163 = .ok (.ireturn, 1) := by decide +kernel
theorem dX4_hasPaid_0 : decode cX4_hasPaid 0 = .ok (.aload_n 0, 1) := by decide +kernel
theorem dX4_hasPaid_1 : decode cX4_hasPaid 1 = .ok (.iload_n 1, 1) := by decide +kernel
theorem dX4_hasPaid_2 : decode cX4_hasPaid 2 = .ok (.iconst 0, 1) := by decide +kernel
theorem dX4_hasPaid_3 : decode cX4_hasPaid 3 = .ok (.aload_n 0, 1) := by decide +kernel
theorem dX4_hasPaid_4 : decode cX4_hasPaid 4 = .ok (.getfield 79, 3) := by decide +kernel
theorem dX4_hasPaid_7 : decode cX4_hasPaid 7 = .ok (.iconst 1, 1) := by decide +kernel
theorem dX4_hasPaid_8 : decode cX4_hasPaid 8 = .ok (.isub, 1) := by decide +kernel
theorem dX4_hasPaid_9 : decode cX4_hasPaid 9 = .ok (.invokestatic 57, 3) := by decide +kernel
theorem dX4_hasPaid_12 : decode cX4_hasPaid 12 = .ok (.ifCond .eq 7, 3) := by decide +kernel
theorem dX4_hasPaid_15 : decode cX4_hasPaid 15 = .ok (.iconst 0, 1) := by decide +kernel
theorem dX4_hasPaid_16 : decode cX4_hasPaid 16 = .ok (.goto 4, 3) := by decide +kernel
theorem dX4_hasPaid_19 : decode cX4_hasPaid 19 = .ok (.iconst 1, 1) := by decide +kernel
theorem dX4_hasPaid_20 : decode cX4_hasPaid 20 = .ok (.invokevirtual 99, 3) := by decide +kernel
theorem dX4_hasPaid_23 : decode cX4_hasPaid 23 = .ok (.ifCond .eq 16, 3) := by decide +kernel
theorem dX4_hasPaid_26 : decode cX4_hasPaid 26 = .ok (.aload_n 0, 1) := by decide +kernel
theorem dX4_hasPaid_27 : decode cX4_hasPaid 27 = .ok (.getfield 35, 3) := by decide +kernel
theorem dX4_hasPaid_30 : decode cX4_hasPaid 30 = .ok (.iload_n 1, 1) := by decide +kernel
theorem dX4_hasPaid_31 : decode cX4_hasPaid 31 = .ok (.baload, 1) := by decide +kernel
theorem dX4_hasPaid_32 : decode cX4_hasPaid 32 = .ok (.ifCond .eq 7, 3) := by decide +kernel
theorem dX4_hasPaid_35 : decode cX4_hasPaid 35 = .ok (.iconst 1, 1) := by decide +kernel
theorem dX4_hasPaid_36 : decode cX4_hasPaid 36 = .ok (.goto 4, 3) := by decide +kernel
theorem dX4_hasPaid_39 : decode cX4_hasPaid 39 = .ok (.iconst 0, 1) := by decide +kernel
theorem dX4_hasPaid_40 : decode cX4_hasPaid 40 = .ok (.ireturn, 1) := by decide +kernel
theorem dX4_bonus_0 : decode cX4_bonus 0 = .ok (.aload_n 0, 1) := by decide +kernel
theorem dX4_bonus_1 : decode cX4_bonus 1 = .ok (.iconst 0, 1) := by decide +kernel
theorem dX4_bonus_2 : decode cX4_bonus 2 = .ok (.putfield 54, 3) := by decide +kernel
theorem dX4_bonus_5 : decode cX4_bonus 5 = .ok (.aload_n 0, 1) := by decide +kernel
theorem dX4_bonus_6 : decode cX4_bonus 6 = .ok (.getfield 86, 3) := by decide +kernel
theorem dX4_bonus_9 : decode cX4_bonus 9 = .ok (.ireturn, 1) := by decide +kernel
theorem dX4_haulOf_0 : decode cX4_haulOf 0 = .ok (.iconst 0, 1) := by decide +kernel
theorem dX4_haulOf_1 : decode cX4_haulOf 1 = .ok (.istore_n 2, 1) := by decide +kernel
theorem dX4_haulOf_2 : decode cX4_haulOf 2 = .ok (.iload_n 2, 1) := by decide +kernel
theorem dX4_haulOf_3 : decode cX4_haulOf 3 = .ok (.aload_n 0, 1) := by decide +kernel
theorem dX4_haulOf_4 : decode cX4_haulOf 4 = .ok (.getfield 64, 3) := by decide +kernel
theorem dX4_haulOf_7 : decode cX4_haulOf 7 = .ok (.if_icmp .ge 31, 3) := by decide +kernel
theorem dX4_haulOf_10 : decode cX4_haulOf 10 = .ok (.aload_n 0, 1) := by decide +kernel
theorem dX4_haulOf_11 : decode cX4_haulOf 11 = .ok (.getfield 39, 3) := by decide +kernel
theorem dX4_haulOf_14 : decode cX4_haulOf 14 = .ok (.iload_n 2, 1) := by decide +kernel
theorem dX4_haulOf_15 : decode cX4_haulOf 15 = .ok (.iaload, 1) := by decide +kernel
theorem dX4_haulOf_16 : decode cX4_haulOf 16 = .ok (.iload_n 1, 1) := by decide +kernel
theorem dX4_haulOf_17 : decode cX4_haulOf 17 = .ok (.if_icmp .ne 15, 3) := by decide +kernel
theorem dX4_haulOf_20 : decode cX4_haulOf 20 = .ok (.aload_n 0, 1) := by decide +kernel
theorem dX4_haulOf_21 : decode cX4_haulOf 21 = .ok (.getfield 45, 3) := by decide +kernel
theorem dX4_haulOf_24 : decode cX4_haulOf 24 = .ok (.iload_n 2, 1) := by decide +kernel
theorem dX4_haulOf_25 : decode cX4_haulOf 25 = .ok (.iaload, 1) := by decide +kernel
theorem dX4_haulOf_26 : decode cX4_haulOf 26 = .ok (.iconst 1, 1) := by decide +kernel
theorem dX4_haulOf_27 : decode cX4_haulOf 27 = .ok (.if_icmp .gt 5, 3) := by decide +kernel
theorem dX4_haulOf_30 : decode cX4_haulOf 30 = .ok (.iload_n 2, 1) := by decide +kernel
theorem dX4_haulOf_31 : decode cX4_haulOf 31 = .ok (.ireturn, 1) := by decide +kernel
theorem dX4_haulOf_32 : decode cX4_haulOf 32 = .ok (.iinc 2 1, 3) := by decide +kernel
theorem dX4_haulOf_35 : decode cX4_haulOf 35 = .ok (.goto (-33), 3) := by decide +kernel
theorem dX4_haulOf_38 : decode cX4_haulOf 38 = .ok (.iconst (-1), 1) := by decide +kernel
theorem dX4_haulOf_39 : decode cX4_haulOf 39 = .ok (.ireturn, 1) := by decide +kernel
theorem dX4_offer_0 : decode cX4_offer 0 = .ok (.aload_n 0, 1) := by decide +kernel
theorem dX4_offer_1 : decode cX4_offer 1 = .ok (.iload_n 1, 1) := by decide +kernel
theorem dX4_offer_2 : decode cX4_offer 2 = .ok (.invokevirtual 121, 3) := by decide +kernel
theorem dX4_offer_5 : decode cX4_offer 5 = .ok (.istore_n 3, 1) := by decide +kernel
theorem dX4_offer_6 : decode cX4_offer 6 = .ok (.aload_n 0, 1) := by decide +kernel
theorem dX4_offer_7 : decode cX4_offer 7 = .ok (.invokevirtual 118, 3) := by decide +kernel
theorem dX4_offer_10 : decode cX4_offer 10 = .ok (.iload_n 3, 1) := by decide +kernel
theorem dX4_offer_11 : decode cX4_offer 11 = .ok (.ifCond .eq 34, 3) := by decide +kernel
theorem dX4_offer_14 : decode cX4_offer 14 = .ok (.aload_n 0, 1) := by decide +kernel
theorem dX4_offer_15 : decode cX4_offer 15 = .ok (.iload_n 1, 1) := by decide +kernel
theorem dX4_offer_16 : decode cX4_offer 16 = .ok (.invokevirtual 112, 3) := by decide +kernel
theorem dX4_offer_19 : decode cX4_offer 19 = .ok (.iconst (-1), 1) := by decide +kernel
theorem dX4_offer_20 : decode cX4_offer 20 = .ok (.if_icmp .eq 25, 3) := by decide +kernel
theorem dX4_offer_23 : decode cX4_offer 23 = .ok (.aload_n 0, 1) := by decide +kernel
theorem dX4_offer_24 : decode cX4_offer 24 = .ok (.iload_n 1, 1) := by decide +kernel
theorem dX4_offer_25 : decode cX4_offer 25 = .ok (.invokevirtual 145, 3) := by decide +kernel
theorem dX4_offer_28 : decode cX4_offer 28 = .ok (.iconst (-1), 1) := by decide +kernel
theorem dX4_offer_29 : decode cX4_offer 29 = .ok (.if_icmp .ne 16, 3) := by decide +kernel
theorem dX4_offer_32 : decode cX4_offer 32 = .ok (.aload_n 0, 1) := by decide +kernel
theorem dX4_offer_33 : decode cX4_offer 33 = .ok (.getfield 64, 3) := by decide +kernel
theorem dX4_offer_36 : decode cX4_offer 36 = .ok (.bipush 20, 2) := by decide +kernel
theorem dX4_offer_38 : decode cX4_offer 38 = .ok (.if_icmp .ge 7, 3) := by decide +kernel
theorem dX4_offer_41 : decode cX4_offer 41 = .ok (.iconst 1, 1) := by decide +kernel
theorem dX4_offer_42 : decode cX4_offer 42 = .ok (.goto 4, 3) := by decide +kernel
theorem dX4_offer_45 : decode cX4_offer 45 = .ok (.iconst 0, 1) := by decide +kernel
theorem dX4_offer_46 : decode cX4_offer 46 = .ok (.istore 4, 2) := by decide +kernel
theorem dX4_offer_48 : decode cX4_offer 48 = .ok (.aload_n 0, 1) := by decide +kernel
theorem dX4_offer_49 : decode cX4_offer 49 = .ok (.iload_n 3, 1) := by decide +kernel
theorem dX4_offer_50 : decode cX4_offer 50 = .ok (.ifCond .ne 7, 3) := by decide +kernel
theorem dX4_offer_53 : decode cX4_offer 53 = .ok (.iconst 1, 1) := by decide +kernel
theorem dX4_offer_54 : decode cX4_offer 54 = .ok (.goto 35, 3) := by decide +kernel
theorem dX4_offer_57 : decode cX4_offer 57 = .ok (.iload_n 2, 1) := by decide +kernel
theorem dX4_offer_58 : decode cX4_offer 58 = .ok (.aload_n 0, 1) := by decide +kernel
theorem dX4_offer_59 : decode cX4_offer 59 = .ok (.getfield 148, 3) := by decide +kernel
theorem dX4_offer_62 : decode cX4_offer 62 = .ok (.aload_n 0, 1) := by decide +kernel
theorem dX4_offer_63 : decode cX4_offer 63 = .ok (.getfield 148, 3) := by decide +kernel
theorem dX4_offer_66 : decode cX4_offer 66 = .ok (.bipush 100, 2) := by decide +kernel
theorem dX4_offer_68 : decode cX4_offer 68 = .ok (.iadd, 1) := by decide +kernel
theorem dX4_offer_69 : decode cX4_offer 69 = .ok (.invokestatic 57, 3) := by decide +kernel
theorem dX4_offer_72 : decode cX4_offer 72 = .ok (.ifCond .ne 7, 3) := by decide +kernel
theorem dX4_offer_75 : decode cX4_offer 75 = .ok (.iconst 2, 1) := by decide +kernel
theorem dX4_offer_76 : decode cX4_offer 76 = .ok (.goto 13, 3) := by decide +kernel
theorem dX4_offer_79 : decode cX4_offer 79 = .ok (.iload 4, 2) := by decide +kernel
theorem dX4_offer_81 : decode cX4_offer 81 = .ok (.ifCond .eq 7, 3) := by decide +kernel
theorem dX4_offer_84 : decode cX4_offer 84 = .ok (.iconst 0, 1) := by decide +kernel
theorem dX4_offer_85 : decode cX4_offer 85 = .ok (.goto 4, 3) := by decide +kernel
theorem dX4_offer_88 : decode cX4_offer 88 = .ok (.iconst 3, 1) := by decide +kernel
theorem dX4_offer_89 : decode cX4_offer 89 = .ok (.invokevirtual 99, 3) := by decide +kernel
theorem dX4_offer_92 : decode cX4_offer 92 = .ok (.ifCond .ne 5, 3) := by decide +kernel
theorem dX4_offer_95 : decode cX4_offer 95 = .ok (.iconst 0, 1) := by decide +kernel
theorem dX4_offer_96 : decode cX4_offer 96 = .ok (.ireturn, 1) := by decide +kernel
theorem dX4_offer_97 : decode cX4_offer 97 = .ok (.aload_n 0, 1) := by decide +kernel
theorem dX4_offer_98 : decode cX4_offer 98 = .ok (.getfield 39, 3) := by decide +kernel
theorem dX4_offer_101 : decode cX4_offer 101 = .ok (.aload_n 0, 1) := by decide +kernel
theorem dX4_offer_102 : decode cX4_offer 102 = .ok (.getfield 64, 3) := by decide +kernel
theorem dX4_offer_105 : decode cX4_offer 105 = .ok (.iload_n 1, 1) := by decide +kernel
theorem dX4_offer_106 : decode cX4_offer 106 = .ok (.iastore, 1) := by decide +kernel
theorem dX4_offer_107 : decode cX4_offer 107 = .ok (.aload_n 0, 1) := by decide +kernel
theorem dX4_offer_108 : decode cX4_offer 108 = .ok (.getfield 42, 3) := by decide +kernel
theorem dX4_offer_111 : decode cX4_offer 111 = .ok (.aload_n 0, 1) := by decide +kernel
theorem dX4_offer_112 : decode cX4_offer 112 = .ok (.getfield 64, 3) := by decide +kernel
theorem dX4_offer_115 : decode cX4_offer 115 = .ok (.iload_n 2, 1) := by decide +kernel
theorem dX4_offer_116 : decode cX4_offer 116 = .ok (.iastore, 1) := by decide +kernel
theorem dX4_offer_117 : decode cX4_offer 117 = .ok (.aload_n 0, 1) := by decide +kernel
theorem dX4_offer_118 : decode cX4_offer 118 = .ok (.getfield 45, 3) := by decide +kernel
theorem dX4_offer_121 : decode cX4_offer 121 = .ok (.aload_n 0, 1) := by decide +kernel
theorem dX4_offer_122 : decode cX4_offer 122 = .ok (.getfield 64, 3) := by decide +kernel
theorem dX4_offer_125 : decode cX4_offer 125 = .ok (.iconst 0, 1) := by decide +kernel
theorem dX4_offer_126 : decode cX4_offer 126 = .ok (.iastore, 1) := by decide +kernel
theorem dX4_offer_127 : decode cX4_offer 127 = .ok (.aload_n 0, 1) := by decide +kernel
theorem dX4_offer_128 : decode cX4_offer 128 = .ok (.dup, 1) := by decide +kernel
theorem dX4_offer_129 : decode cX4_offer 129 = .ok (.getfield 64, 3) := by decide +kernel
theorem dX4_offer_132 : decode cX4_offer 132 = .ok (.iconst 1, 1) := by decide +kernel
theorem dX4_offer_133 : decode cX4_offer 133 = .ok (.iadd, 1) := by decide +kernel
theorem dX4_offer_134 : decode cX4_offer 134 = .ok (.putfield 64, 3) := by decide +kernel
theorem dX4_offer_137 : decode cX4_offer 137 = .ok (.aload_n 0, 1) := by decide +kernel
theorem dX4_offer_138 : decode cX4_offer 138 = .ok (.getfield 64, 3) := by decide +kernel
theorem dX4_offer_141 : decode cX4_offer 141 = .ok (.iconst 1, 1) := by decide +kernel
theorem dX4_offer_142 : decode cX4_offer 142 = .ok (.isub, 1) := by decide +kernel
theorem dX4_offer_143 : decode cX4_offer 143 = .ok (.ireturn, 1) := by decide +kernel
theorem dX4_bid_0 : decode cX4_bid 0 = .ok (.aload_n 0, 1) := by decide +kernel
theorem dX4_bid_1 : decode cX4_bid 1 = .ok (.iload_n 1, 1) := by decide +kernel
theorem dX4_bid_2 : decode cX4_bid 2 = .ok (.invokevirtual 151, 3) := by decide +kernel
theorem dX4_bid_5 : decode cX4_bid 5 = .ok (.istore 4, 2) := by decide +kernel
theorem dX4_bid_7 : decode cX4_bid 7 = .ok (.iload_n 2, 1) := by decide +kernel
theorem dX4_bid_8 : decode cX4_bid 8 = .ok (.iconst 0, 1) := by decide +kernel
theorem dX4_bid_9 : decode cX4_bid 9 = .ok (.iconst 3, 1) := by decide +kernel
theorem dX4_bid_10 : decode cX4_bid 10 = .ok (.invokestatic 57, 3) := by decide +kernel
theorem dX4_bid_13 : decode cX4_bid 13 = .ok (.ifCond .eq 18, 3) := by decide +kernel
theorem dX4_bid_16 : decode cX4_bid 16 = .ok (.iload_n 3, 1) := by decide +kernel
theorem dX4_bid_17 : decode cX4_bid 17 = .ok (.iconst 1, 1) := by decide +kernel
theorem dX4_bid_18 : decode cX4_bid 18 = .ok (.sipush 1000, 3) := by decide +kernel
theorem dX4_bid_21 : decode cX4_bid 21 = .ok (.invokestatic 57, 3) := by decide +kernel
theorem dX4_bid_24 : decode cX4_bid 24 = .ok (.ifCond .eq 7, 3) := by decide +kernel
theorem dX4_bid_27 : decode cX4_bid 27 = .ok (.iconst 1, 1) := by decide +kernel
theorem dX4_bid_28 : decode cX4_bid 28 = .ok (.goto 4, 3) := by decide +kernel
theorem dX4_bid_31 : decode cX4_bid 31 = .ok (.iconst 0, 1) := by decide +kernel
theorem dX4_bid_32 : decode cX4_bid 32 = .ok (.istore 5, 2) := by decide +kernel
theorem dX4_bid_34 : decode cX4_bid 34 = .ok (.iload 4, 2) := by decide +kernel
theorem dX4_bid_36 : decode cX4_bid 36 = .ok (.ifCond .eq 34, 3) := by decide +kernel
theorem dX4_bid_39 : decode cX4_bid 39 = .ok (.iload 5, 2) := by decide +kernel
theorem dX4_bid_41 : decode cX4_bid 41 = .ok (.ifCond .eq 29, 3) := by decide +kernel
theorem dX4_bid_44 : decode cX4_bid 44 = .ok (.aload_n 0, 1) := by decide +kernel
theorem dX4_bid_45 : decode cX4_bid 45 = .ok (.getfield 45, 3) := by decide +kernel
theorem dX4_bid_48 : decode cX4_bid 48 = .ok (.iload_n 1, 1) := by decide +kernel
theorem dX4_bid_49 : decode cX4_bid 49 = .ok (.iaload, 1) := by decide +kernel
theorem dX4_bid_50 : decode cX4_bid 50 = .ok (.ifCond .ne 20, 3) := by decide +kernel
theorem dX4_bid_53 : decode cX4_bid 53 = .ok (.aload_n 0, 1) := by decide +kernel
theorem dX4_bid_54 : decode cX4_bid 54 = .ok (.getfield 51, 3) := by decide +kernel
theorem dX4_bid_57 : decode cX4_bid 57 = .ok (.iconst 4, 1) := by decide +kernel
theorem dX4_bid_58 : decode cX4_bid 58 = .ok (.iload_n 1, 1) := by decide +kernel
theorem dX4_bid_59 : decode cX4_bid 59 = .ok (.imul, 1) := by decide +kernel
theorem dX4_bid_60 : decode cX4_bid 60 = .ok (.iload_n 2, 1) := by decide +kernel
theorem dX4_bid_61 : decode cX4_bid 61 = .ok (.iadd, 1) := by decide +kernel
theorem dX4_bid_62 : decode cX4_bid 62 = .ok (.iaload, 1) := by decide +kernel
theorem dX4_bid_63 : decode cX4_bid 63 = .ok (.ifCond .ne 7, 3) := by decide +kernel
theorem dX4_bid_66 : decode cX4_bid 66 = .ok (.iconst 1, 1) := by decide +kernel
theorem dX4_bid_67 : decode cX4_bid 67 = .ok (.goto 4, 3) := by decide +kernel
theorem dX4_bid_70 : decode cX4_bid 70 = .ok (.iconst 0, 1) := by decide +kernel
theorem dX4_bid_71 : decode cX4_bid 71 = .ok (.istore 6, 2) := by decide +kernel
theorem dX4_bid_73 : decode cX4_bid 73 = .ok (.aload_n 0, 1) := by decide +kernel
theorem dX4_bid_74 : decode cX4_bid 74 = .ok (.iload 4, 2) := by decide +kernel
theorem dX4_bid_76 : decode cX4_bid 76 = .ok (.ifCond .ne 7, 3) := by decide +kernel
theorem dX4_bid_79 : decode cX4_bid 79 = .ok (.iconst 1, 1) := by decide +kernel
theorem dX4_bid_80 : decode cX4_bid 80 = .ok (.goto 22, 3) := by decide +kernel
theorem dX4_bid_83 : decode cX4_bid 83 = .ok (.iload 5, 2) := by decide +kernel
theorem dX4_bid_85 : decode cX4_bid 85 = .ok (.ifCond .ne 7, 3) := by decide +kernel
theorem dX4_bid_88 : decode cX4_bid 88 = .ok (.iconst 2, 1) := by decide +kernel
theorem dX4_bid_89 : decode cX4_bid 89 = .ok (.goto 13, 3) := by decide +kernel
theorem dX4_bid_92 : decode cX4_bid 92 = .ok (.iload 6, 2) := by decide +kernel
theorem dX4_bid_94 : decode cX4_bid 94 = .ok (.ifCond .eq 7, 3) := by decide +kernel
theorem dX4_bid_97 : decode cX4_bid 97 = .ok (.iconst 0, 1) := by decide +kernel
theorem dX4_bid_98 : decode cX4_bid 98 = .ok (.goto 4, 3) := by decide +kernel
theorem dX4_bid_101 : decode cX4_bid 101 = .ok (.iconst 3, 1) := by decide +kernel
theorem dX4_bid_102 : decode cX4_bid 102 = .ok (.invokevirtual 99, 3) := by decide +kernel
theorem dX4_bid_105 : decode cX4_bid 105 = .ok (.ifCond .eq 14, 3) := by decide +kernel
theorem dX4_bid_108 : decode cX4_bid 108 = .ok (.aload_n 0, 1) := by decide +kernel
theorem dX4_bid_109 : decode cX4_bid 109 = .ok (.getfield 51, 3) := by decide +kernel
theorem dX4_bid_112 : decode cX4_bid 112 = .ok (.iconst 4, 1) := by decide +kernel
theorem dX4_bid_113 : decode cX4_bid 113 = .ok (.iload_n 1, 1) := by decide +kernel
theorem dX4_bid_114 : decode cX4_bid 114 = .ok (.imul, 1) := by decide +kernel
theorem dX4_bid_115 : decode cX4_bid 115 = .ok (.iload_n 2, 1) := by decide +kernel
theorem dX4_bid_116 : decode cX4_bid 116 = .ok (.iadd, 1) := by decide +kernel
theorem dX4_bid_117 : decode cX4_bid 117 = .ok (.iload_n 3, 1) := by decide +kernel
theorem dX4_bid_118 : decode cX4_bid 118 = .ok (.iastore, 1) := by decide +kernel
theorem dX4_bid_119 : decode cX4_bid 119 = .ok (.return_, 1) := by decide +kernel
theorem dX4_cheapest_0 : decode cX4_cheapest 0 = .ok (.iconst (-1), 1) := by decide +kernel
theorem dX4_cheapest_1 : decode cX4_cheapest 1 = .ok (.istore_n 2, 1) := by decide +kernel
theorem dX4_cheapest_2 : decode cX4_cheapest 2 = .ok (.iconst 0, 1) := by decide +kernel
theorem dX4_cheapest_3 : decode cX4_cheapest 3 = .ok (.istore_n 3, 1) := by decide +kernel
theorem dX4_cheapest_4 : decode cX4_cheapest 4 = .ok (.iload_n 3, 1) := by decide +kernel
theorem dX4_cheapest_5 : decode cX4_cheapest 5 = .ok (.iconst 4, 1) := by decide +kernel
theorem dX4_cheapest_6 : decode cX4_cheapest 6 = .ok (.if_icmp .ge 52, 3) := by decide +kernel
theorem dX4_cheapest_9 : decode cX4_cheapest 9 = .ok (.aload_n 0, 1) := by decide +kernel
theorem dX4_cheapest_10 : decode cX4_cheapest 10 = .ok (.getfield 51, 3) := by decide +kernel
theorem dX4_cheapest_13 : decode cX4_cheapest 13 = .ok (.iconst 4, 1) := by decide +kernel
theorem dX4_cheapest_14 : decode cX4_cheapest 14 = .ok (.iload_n 1, 1) := by decide +kernel
theorem dX4_cheapest_15 : decode cX4_cheapest 15 = .ok (.imul, 1) := by decide +kernel
theorem dX4_cheapest_16 : decode cX4_cheapest 16 = .ok (.iload_n 3, 1) := by decide +kernel
theorem dX4_cheapest_17 : decode cX4_cheapest 17 = .ok (.iadd, 1) := by decide +kernel
theorem dX4_cheapest_18 : decode cX4_cheapest 18 = .ok (.iaload, 1) := by decide +kernel
theorem dX4_cheapest_19 : decode cX4_cheapest 19 = .ok (.istore 4, 2) := by decide +kernel
theorem dX4_cheapest_21 : decode cX4_cheapest 21 = .ok (.iload 4, 2) := by decide +kernel
theorem dX4_cheapest_23 : decode cX4_cheapest 23 = .ok (.ifCond .le 27, 3) := by decide +kernel
theorem dX4_cheapest_26 : decode cX4_cheapest 26 = .ok (.iload_n 2, 1) := by decide +kernel
theorem dX4_cheapest_27 : decode cX4_cheapest 27 = .ok (.iconst (-1), 1) := by decide +kernel
theorem dX4_cheapest_28 : decode cX4_cheapest 28 = .ok (.if_icmp .eq 18, 3) := by decide +kernel
theorem dX4_cheapest_31 : decode cX4_cheapest 31 = .ok (.iload 4, 2) := by decide +kernel
theorem dX4_cheapest_33 : decode cX4_cheapest 33 = .ok (.aload_n 0, 1) := by decide +kernel
theorem dX4_cheapest_34 : decode cX4_cheapest 34 = .ok (.getfield 51, 3) := by decide +kernel
theorem dX4_cheapest_37 : decode cX4_cheapest 37 = .ok (.iconst 4, 1) := by decide +kernel
theorem dX4_cheapest_38 : decode cX4_cheapest 38 = .ok (.iload_n 1, 1) := by decide +kernel
theorem dX4_cheapest_39 : decode cX4_cheapest 39 = .ok (.imul, 1) := by decide +kernel
theorem dX4_cheapest_40 : decode cX4_cheapest 40 = .ok (.iload_n 2, 1) := by decide +kernel
theorem dX4_cheapest_41 : decode cX4_cheapest 41 = .ok (.iadd, 1) := by decide +kernel
theorem dX4_cheapest_42 : decode cX4_cheapest 42 = .ok (.iaload, 1) := by decide +kernel
theorem dX4_cheapest_43 : decode cX4_cheapest 43 = .ok (.if_icmp .ge 7, 3) := by decide +kernel
theorem dX4_cheapest_46 : decode cX4_cheapest 46 = .ok (.iload_n 3, 1) := by decide +kernel
theorem dX4_cheapest_47 : decode cX4_cheapest 47 = .ok (.goto 4, 3) := by decide +kernel
theorem dX4_cheapest_50 : decode cX4_cheapest 50 = .ok (.iload_n 2, 1) := by decide +kernel
theorem dX4_cheapest_51 : decode cX4_cheapest 51 = .ok (.istore_n 2, 1) := by decide +kernel
theorem dX4_cheapest_52 : decode cX4_cheapest 52 = .ok (.iinc 3 1, 3) := by decide +kernel
theorem dX4_cheapest_55 : decode cX4_cheapest 55 = .ok (.goto (-51), 3) := by decide +kernel
theorem dX4_cheapest_58 : decode cX4_cheapest 58 = .ok (.iload_n 2, 1) := by decide +kernel
theorem dX4_cheapest_59 : decode cX4_cheapest 59 = .ok (.ireturn, 1) := by decide +kernel
theorem dX4_give_0 : decode cX4_give 0 = .ok (.aload_n 0, 1) := by decide +kernel
theorem dX4_give_1 : decode cX4_give 1 = .ok (.iload_n 1, 1) := by decide +kernel
theorem dX4_give_2 : decode cX4_give 2 = .ok (.invokevirtual 151, 3) := by decide +kernel
theorem dX4_give_5 : decode cX4_give 5 = .ok (.istore_n 2, 1) := by decide +kernel
theorem dX4_give_6 : decode cX4_give 6 = .ok (.iload_n 2, 1) := by decide +kernel
theorem dX4_give_7 : decode cX4_give 7 = .ok (.ifCond .eq 20, 3) := by decide +kernel
theorem dX4_give_10 : decode cX4_give 10 = .ok (.aload_n 0, 1) := by decide +kernel
theorem dX4_give_11 : decode cX4_give 11 = .ok (.getfield 45, 3) := by decide +kernel
theorem dX4_give_14 : decode cX4_give 14 = .ok (.iload_n 1, 1) := by decide +kernel
theorem dX4_give_15 : decode cX4_give 15 = .ok (.iaload, 1) := by decide +kernel
theorem dX4_give_16 : decode cX4_give 16 = .ok (.ifCond .ne 11, 3) := by decide +kernel
theorem dX4_give_19 : decode cX4_give 19 = .ok (.aload_n 0, 1) := by decide +kernel
theorem dX4_give_20 : decode cX4_give 20 = .ok (.iload_n 1, 1) := by decide +kernel
theorem dX4_give_21 : decode cX4_give 21 = .ok (.invokevirtual 154, 3) := by decide +kernel
theorem dX4_give_24 : decode cX4_give 24 = .ok (.goto 4, 3) := by decide +kernel
theorem dX4_give_27 : decode cX4_give 27 = .ok (.iconst (-1), 1) := by decide +kernel
theorem dX4_give_28 : decode cX4_give 28 = .ok (.istore_n 3, 1) := by decide +kernel
theorem dX4_give_29 : decode cX4_give 29 = .ok (.aload_n 0, 1) := by decide +kernel
theorem dX4_give_30 : decode cX4_give 30 = .ok (.iload_n 2, 1) := by decide +kernel
theorem dX4_give_31 : decode cX4_give 31 = .ok (.ifCond .ne 7, 3) := by decide +kernel
theorem dX4_give_34 : decode cX4_give 34 = .ok (.iconst 1, 1) := by decide +kernel
theorem dX4_give_35 : decode cX4_give 35 = .ok (.goto 13, 3) := by decide +kernel
theorem dX4_give_38 : decode cX4_give 38 = .ok (.iload_n 3, 1) := by decide +kernel
theorem dX4_give_39 : decode cX4_give 39 = .ok (.iconst (-1), 1) := by decide +kernel
theorem dX4_give_40 : decode cX4_give 40 = .ok (.if_icmp .ne 7, 3) := by decide +kernel
theorem dX4_give_43 : decode cX4_give 43 = .ok (.iconst 2, 1) := by decide +kernel
theorem dX4_give_44 : decode cX4_give 44 = .ok (.goto 4, 3) := by decide +kernel
theorem dX4_give_47 : decode cX4_give 47 = .ok (.iconst 0, 1) := by decide +kernel
theorem dX4_give_48 : decode cX4_give 48 = .ok (.invokevirtual 99, 3) := by decide +kernel
theorem dX4_give_51 : decode cX4_give 51 = .ok (.ifCond .ne 5, 3) := by decide +kernel
theorem dX4_give_54 : decode cX4_give 54 = .ok (.iconst 0, 1) := by decide +kernel
theorem dX4_give_55 : decode cX4_give 55 = .ok (.ireturn, 1) := by decide +kernel
theorem dX4_give_56 : decode cX4_give 56 = .ok (.aload_n 0, 1) := by decide +kernel
theorem dX4_give_57 : decode cX4_give 57 = .ok (.getfield 45, 3) := by decide +kernel
theorem dX4_give_60 : decode cX4_give 60 = .ok (.iload_n 1, 1) := by decide +kernel
theorem dX4_give_61 : decode cX4_give 61 = .ok (.iconst 1, 1) := by decide +kernel
theorem dX4_give_62 : decode cX4_give 62 = .ok (.iastore, 1) := by decide +kernel
theorem dX4_give_63 : decode cX4_give 63 = .ok (.aload_n 0, 1) := by decide +kernel
theorem dX4_give_64 : decode cX4_give 64 = .ok (.getfield 48, 3) := by decide +kernel
theorem dX4_give_67 : decode cX4_give 67 = .ok (.iload_n 1, 1) := by decide +kernel
theorem dX4_give_68 : decode cX4_give 68 = .ok (.aload_n 0, 1) := by decide +kernel
theorem dX4_give_69 : decode cX4_give 69 = .ok (.getfield 51, 3) := by decide +kernel
theorem dX4_give_72 : decode cX4_give 72 = .ok (.iconst 4, 1) := by decide +kernel
theorem dX4_give_73 : decode cX4_give 73 = .ok (.iload_n 1, 1) := by decide +kernel
theorem dX4_give_74 : decode cX4_give 74 = .ok (.imul, 1) := by decide +kernel
theorem dX4_give_75 : decode cX4_give 75 = .ok (.iload_n 3, 1) := by decide +kernel
theorem dX4_give_76 : decode cX4_give 76 = .ok (.iadd, 1) := by decide +kernel
theorem dX4_give_77 : decode cX4_give 77 = .ok (.iaload, 1) := by decide +kernel
theorem dX4_give_78 : decode cX4_give 78 = .ok (.iastore, 1) := by decide +kernel
theorem dX4_give_79 : decode cX4_give 79 = .ok (.iload_n 3, 1) := by decide +kernel
theorem dX4_give_80 : decode cX4_give 80 = .ok (.ireturn, 1) := by decide +kernel
theorem dX4_load_0 : decode cX4_load 0 = .ok (.aload_n 0, 1) := by decide +kernel
theorem dX4_load_1 : decode cX4_load 1 = .ok (.getfield 22, 3) := by decide +kernel
theorem dX4_load_4 : decode cX4_load 4 = .ok (.iconst (-1), 1) := by decide +kernel
theorem dX4_load_5 : decode cX4_load 5 = .ok (.if_icmp .ne 7, 3) := by decide +kernel
theorem dX4_load_8 : decode cX4_load 8 = .ok (.iconst (-1), 1) := by decide +kernel
theorem dX4_load_9 : decode cX4_load 9 = .ok (.goto 11, 3) := by decide +kernel
theorem dX4_load_12 : decode cX4_load 12 = .ok (.aload_n 0, 1) := by decide +kernel
theorem dX4_load_13 : decode cX4_load 13 = .ok (.aload_n 0, 1) := by decide +kernel
theorem dX4_load_14 : decode cX4_load 14 = .ok (.getfield 22, 3) := by decide +kernel
theorem dX4_load_17 : decode cX4_load 17 = .ok (.invokevirtual 145, 3) := by decide +kernel
theorem dX4_load_20 : decode cX4_load 20 = .ok (.istore_n 1, 1) := by decide +kernel
theorem dX4_load_21 : decode cX4_load 21 = .ok (.aload_n 0, 1) := by decide +kernel
theorem dX4_load_22 : decode cX4_load 22 = .ok (.iload_n 1, 1) := by decide +kernel
theorem dX4_load_23 : decode cX4_load 23 = .ok (.iconst (-1), 1) := by decide +kernel
theorem dX4_load_24 : decode cX4_load 24 = .ok (.if_icmp .eq 13, 3) := by decide +kernel
theorem dX4_load_27 : decode cX4_load 27 = .ok (.aload_n 0, 1) := by decide +kernel
theorem dX4_load_28 : decode cX4_load 28 = .ok (.getfield 45, 3) := by decide +kernel
theorem dX4_load_31 : decode cX4_load 31 = .ok (.iload_n 1, 1) := by decide +kernel
theorem dX4_load_32 : decode cX4_load 32 = .ok (.iaload, 1) := by decide +kernel
theorem dX4_load_33 : decode cX4_load 33 = .ok (.iconst 1, 1) := by decide +kernel
theorem dX4_load_34 : decode cX4_load 34 = .ok (.if_icmp .eq 7, 3) := by decide +kernel
theorem dX4_load_37 : decode cX4_load 37 = .ok (.iconst 1, 1) := by decide +kernel
theorem dX4_load_38 : decode cX4_load 38 = .ok (.goto 4, 3) := by decide +kernel
theorem dX4_load_41 : decode cX4_load 41 = .ok (.iconst 0, 1) := by decide +kernel
theorem dX4_load_42 : decode cX4_load 42 = .ok (.invokevirtual 99, 3) := by decide +kernel
theorem dX4_load_45 : decode cX4_load 45 = .ok (.ifCond .ne 5, 3) := by decide +kernel
theorem dX4_load_48 : decode cX4_load 48 = .ok (.iconst 0, 1) := by decide +kernel
theorem dX4_load_49 : decode cX4_load 49 = .ok (.ireturn, 1) := by decide +kernel
theorem dX4_load_50 : decode cX4_load 50 = .ok (.aload_n 0, 1) := by decide +kernel
theorem dX4_load_51 : decode cX4_load 51 = .ok (.getfield 45, 3) := by decide +kernel
theorem dX4_load_54 : decode cX4_load 54 = .ok (.iload_n 1, 1) := by decide +kernel
theorem dX4_load_55 : decode cX4_load 55 = .ok (.iconst 2, 1) := by decide +kernel
theorem dX4_load_56 : decode cX4_load 56 = .ok (.iastore, 1) := by decide +kernel
theorem dX4_load_57 : decode cX4_load 57 = .ok (.aload_n 0, 1) := by decide +kernel
theorem dX4_load_58 : decode cX4_load 58 = .ok (.iconst (-1), 1) := by decide +kernel
theorem dX4_load_59 : decode cX4_load 59 = .ok (.putfield 22, 3) := by decide +kernel
theorem dX4_load_62 : decode cX4_load 62 = .ok (.aload_n 0, 1) := by decide +kernel
theorem dX4_load_63 : decode cX4_load 63 = .ok (.getfield 48, 3) := by decide +kernel
theorem dX4_load_66 : decode cX4_load 66 = .ok (.iload_n 1, 1) := by decide +kernel
theorem dX4_load_67 : decode cX4_load 67 = .ok (.iaload, 1) := by decide +kernel
theorem dX4_load_68 : decode cX4_load 68 = .ok (.ireturn, 1) := by decide +kernel
theorem dX4_state_0 : decode cX4_state 0 = .ok (.aload_n 0, 1) := by decide +kernel
theorem dX4_state_1 : decode cX4_state 1 = .ok (.aload_n 0, 1) := by decide +kernel
theorem dX4_state_2 : decode cX4_state 2 = .ok (.iload_n 1, 1) := by decide +kernel
theorem dX4_state_3 : decode cX4_state 3 = .ok (.invokevirtual 151, 3) := by decide +kernel
theorem dX4_state_6 : decode cX4_state 6 = .ok (.ifCond .eq 7, 3) := by decide +kernel
theorem dX4_state_9 : decode cX4_state 9 = .ok (.iconst 0, 1) := by decide +kernel
theorem dX4_state_10 : decode cX4_state 10 = .ok (.goto 4, 3) := by decide +kernel
theorem dX4_state_13 : decode cX4_state 13 = .ok (.iconst 1, 1) := by decide +kernel
theorem dX4_state_14 : decode cX4_state 14 = .ok (.invokevirtual 99, 3) := by decide +kernel
theorem dX4_state_17 : decode cX4_state 17 = .ok (.ifCond .eq 12, 3) := by decide +kernel
theorem dX4_state_20 : decode cX4_state 20 = .ok (.aload_n 0, 1) := by decide +kernel
theorem dX4_state_21 : decode cX4_state 21 = .ok (.getfield 45, 3) := by decide +kernel
theorem dX4_state_24 : decode cX4_state 24 = .ok (.iload_n 1, 1) := by decide +kernel
theorem dX4_state_25 : decode cX4_state 25 = .ok (.iaload, 1) := by decide +kernel
theorem dX4_state_26 : decode cX4_state 26 = .ok (.goto 4, 3) := by decide +kernel
theorem dX4_state_29 : decode cX4_state 29 = .ok (.iconst 0, 1) := by decide +kernel
theorem dX4_state_30 : decode cX4_state 30 = .ok (.ireturn, 1) := by decide +kernel
theorem dX4_storm_0 : decode cX4_storm 0 = .ok (.aload_n 0, 1) := by decide +kernel
theorem dX4_storm_1 : decode cX4_storm 1 = .ok (.iconst 0, 1) := by decide +kernel
theorem dX4_storm_2 : decode cX4_storm 2 = .ok (.putfield 54, 3) := by decide +kernel
theorem dX4_storm_5 : decode cX4_storm 5 = .ok (.aload_n 0, 1) := by decide +kernel
theorem dX4_storm_6 : decode cX4_storm 6 = .ok (.iconst 1, 1) := by decide +kernel
theorem dX4_storm_7 : decode cX4_storm 7 = .ok (.putfield 67, 3) := by decide +kernel
theorem dX4_storm_10 : decode cX4_storm 10 = .ok (.iconst 0, 1) := by decide +kernel
theorem dX4_storm_11 : decode cX4_storm 11 = .ok (.istore_n 1, 1) := by decide +kernel
theorem dX4_storm_12 : decode cX4_storm 12 = .ok (.iconst 0, 1) := by decide +kernel
theorem dX4_storm_13 : decode cX4_storm 13 = .ok (.istore_n 2, 1) := by decide +kernel
theorem dX4_storm_14 : decode cX4_storm 14 = .ok (.iload_n 2, 1) := by decide +kernel
theorem dX4_storm_15 : decode cX4_storm 15 = .ok (.bipush 6, 2) := by decide +kernel
theorem dX4_storm_17 : decode cX4_storm 17 = .ok (.if_icmp .ge 34, 3) := by decide +kernel
theorem dX4_storm_20 : decode cX4_storm 20 = .ok (.iload_n 1, 1) := by decide +kernel
theorem dX4_storm_21 : decode cX4_storm 21 = .ok (.aload_n 0, 1) := by decide +kernel
theorem dX4_storm_22 : decode cX4_storm 22 = .ok (.getfield 13, 3) := by decide +kernel
theorem dX4_storm_25 : decode cX4_storm 25 = .ok (.iload_n 2, 1) := by decide +kernel
theorem dX4_storm_26 : decode cX4_storm 26 = .ok (.iaload, 1) := by decide +kernel
theorem dX4_storm_27 : decode cX4_storm 27 = .ok (.iconst 3, 1) := by decide +kernel
theorem dX4_storm_28 : decode cX4_storm 28 = .ok (.if_icmp .le 14, 3) := by decide +kernel
theorem dX4_storm_31 : decode cX4_storm 31 = .ok (.aload_n 0, 1) := by decide +kernel
theorem dX4_storm_32 : decode cX4_storm 32 = .ok (.getfield 13, 3) := by decide +kernel
theorem dX4_storm_35 : decode cX4_storm 35 = .ok (.iload_n 2, 1) := by decide +kernel
theorem dX4_storm_36 : decode cX4_storm 36 = .ok (.iaload, 1) := by decide +kernel
theorem dX4_storm_37 : decode cX4_storm 37 = .ok (.iconst 3, 1) := by decide +kernel
theorem dX4_storm_38 : decode cX4_storm 38 = .ok (.isub, 1) := by decide +kernel
theorem dX4_storm_39 : decode cX4_storm 39 = .ok (.goto 4, 3) := by decide +kernel
theorem dX4_storm_42 : decode cX4_storm 42 = .ok (.iconst 0, 1) := by decide +kernel
theorem dX4_storm_43 : decode cX4_storm 43 = .ok (.iadd, 1) := by decide +kernel
theorem dX4_storm_44 : decode cX4_storm 44 = .ok (.istore_n 1, 1) := by decide +kernel
theorem dX4_storm_45 : decode cX4_storm 45 = .ok (.iinc 2 1, 3) := by decide +kernel
theorem dX4_storm_48 : decode cX4_storm 48 = .ok (.goto (-34), 3) := by decide +kernel
theorem dX4_storm_51 : decode cX4_storm 51 = .ok (.iload_n 1, 1) := by decide +kernel
theorem dX4_storm_52 : decode cX4_storm 52 = .ok (.ireturn, 1) := by decide +kernel
theorem dX4_endDay_0 : decode cX4_endDay 0 = .ok (.iconst 0, 1) := by decide +kernel
theorem dX4_endDay_1 : decode cX4_endDay 1 = .ok (.istore_n 1, 1) := by decide +kernel
theorem dX4_endDay_2 : decode cX4_endDay 2 = .ok (.iconst 0, 1) := by decide +kernel
theorem dX4_endDay_3 : decode cX4_endDay 3 = .ok (.istore_n 2, 1) := by decide +kernel
theorem dX4_endDay_4 : decode cX4_endDay 4 = .ok (.iload_n 2, 1) := by decide +kernel
theorem dX4_endDay_5 : decode cX4_endDay 5 = .ok (.bipush 6, 2) := by decide +kernel
theorem dX4_endDay_7 : decode cX4_endDay 7 = .ok (.if_icmp .ge 29, 3) := by decide +kernel
theorem dX4_endDay_10 : decode cX4_endDay 10 = .ok (.iload_n 1, 1) := by decide +kernel
theorem dX4_endDay_11 : decode cX4_endDay 11 = .ok (.aload_n 0, 1) := by decide +kernel
theorem dX4_endDay_12 : decode cX4_endDay 12 = .ok (.getfield 13, 3) := by decide +kernel
theorem dX4_endDay_15 : decode cX4_endDay 15 = .ok (.iload_n 2, 1) := by decide +kernel
theorem dX4_endDay_16 : decode cX4_endDay 16 = .ok (.iaload, 1) := by decide +kernel
theorem dX4_endDay_17 : decode cX4_endDay 17 = .ok (.aload_n 0, 1) := by decide +kernel
theorem dX4_endDay_18 : decode cX4_endDay 18 = .ok (.getfield 13, 3) := by decide +kernel
theorem dX4_endDay_21 : decode cX4_endDay 21 = .ok (.iload_n 2, 1) := by decide +kernel
theorem dX4_endDay_22 : decode cX4_endDay 22 = .ok (.iaload, 1) := by decide +kernel
theorem dX4_endDay_23 : decode cX4_endDay 23 = .ok (.iconst 1, 1) := by decide +kernel
theorem dX4_endDay_24 : decode cX4_endDay 24 = .ok (.isub, 1) := by decide +kernel
theorem dX4_endDay_25 : decode cX4_endDay 25 = .ok (.imul, 1) := by decide +kernel
theorem dX4_endDay_26 : decode cX4_endDay 26 = .ok (.iconst 2, 1) := by decide +kernel
theorem dX4_endDay_27 : decode cX4_endDay 27 = .ok (.idiv, 1) := by decide +kernel
theorem dX4_endDay_28 : decode cX4_endDay 28 = .ok (.iadd, 1) := by decide +kernel
theorem dX4_endDay_29 : decode cX4_endDay 29 = .ok (.istore_n 1, 1) := by decide +kernel
theorem dX4_endDay_30 : decode cX4_endDay 30 = .ok (.iinc 2 1, 3) := by decide +kernel
theorem dX4_endDay_33 : decode cX4_endDay 33 = .ok (.goto (-29), 3) := by decide +kernel
theorem dX4_endDay_36 : decode cX4_endDay 36 = .ok (.iconst 0, 1) := by decide +kernel
theorem dX4_endDay_37 : decode cX4_endDay 37 = .ok (.istore_n 2, 1) := by decide +kernel
theorem dX4_endDay_38 : decode cX4_endDay 38 = .ok (.iload_n 2, 1) := by decide +kernel
theorem dX4_endDay_39 : decode cX4_endDay 39 = .ok (.aload_n 0, 1) := by decide +kernel
theorem dX4_endDay_40 : decode cX4_endDay 40 = .ok (.getfield 64, 3) := by decide +kernel
theorem dX4_endDay_43 : decode cX4_endDay 43 = .ok (.if_icmp .ge 39, 3) := by decide +kernel
theorem dX4_endDay_46 : decode cX4_endDay 46 = .ok (.aload_n 0, 1) := by decide +kernel
theorem dX4_endDay_47 : decode cX4_endDay 47 = .ok (.getfield 45, 3) := by decide +kernel
theorem dX4_endDay_50 : decode cX4_endDay 50 = .ok (.iload_n 2, 1) := by decide +kernel
theorem dX4_endDay_51 : decode cX4_endDay 51 = .ok (.iaload, 1) := by decide +kernel
theorem dX4_endDay_52 : decode cX4_endDay 52 = .ok (.iconst 1, 1) := by decide +kernel
theorem dX4_endDay_53 : decode cX4_endDay 53 = .ok (.if_icmp .gt 23, 3) := by decide +kernel
theorem dX4_endDay_56 : decode cX4_endDay 56 = .ok (.aload_n 0, 1) := by decide +kernel
theorem dX4_endDay_57 : decode cX4_endDay 57 = .ok (.getfield 42, 3) := by decide +kernel
theorem dX4_endDay_60 : decode cX4_endDay 60 = .ok (.iload_n 2, 1) := by decide +kernel
theorem dX4_endDay_61 : decode cX4_endDay 61 = .ok (.iaload, 1) := by decide +kernel
theorem dX4_endDay_62 : decode cX4_endDay 62 = .ok (.aload_n 0, 1) := by decide +kernel
theorem dX4_endDay_63 : decode cX4_endDay 63 = .ok (.getfield 148, 3) := by decide +kernel
theorem dX4_endDay_66 : decode cX4_endDay 66 = .ok (.if_icmp .ne 10, 3) := by decide +kernel
theorem dX4_endDay_69 : decode cX4_endDay 69 = .ok (.aload_n 0, 1) := by decide +kernel
theorem dX4_endDay_70 : decode cX4_endDay 70 = .ok (.getfield 45, 3) := by decide +kernel
theorem dX4_endDay_73 : decode cX4_endDay 73 = .ok (.iload_n 2, 1) := by decide +kernel
theorem dX4_endDay_74 : decode cX4_endDay 74 = .ok (.iconst 3, 1) := by decide +kernel
theorem dX4_endDay_75 : decode cX4_endDay 75 = .ok (.iastore, 1) := by decide +kernel
theorem dX4_endDay_76 : decode cX4_endDay 76 = .ok (.iinc 2 1, 3) := by decide +kernel
theorem dX4_endDay_79 : decode cX4_endDay 79 = .ok (.goto (-41), 3) := by decide +kernel
theorem dX4_endDay_82 : decode cX4_endDay 82 = .ok (.aload_n 0, 1) := by decide +kernel
theorem dX4_endDay_83 : decode cX4_endDay 83 = .ok (.dup, 1) := by decide +kernel
theorem dX4_endDay_84 : decode cX4_endDay 84 = .ok (.getfield 157, 3) := by decide +kernel
theorem dX4_endDay_87 : decode cX4_endDay 87 = .ok (.iload_n 1, 1) := by decide +kernel
theorem dX4_endDay_88 : decode cX4_endDay 88 = .ok (.iadd, 1) := by decide +kernel
theorem dX4_endDay_89 : decode cX4_endDay 89 = .ok (.putfield 157, 3) := by decide +kernel
theorem dX4_endDay_92 : decode cX4_endDay 92 = .ok (.aload_n 0, 1) := by decide +kernel
theorem dX4_endDay_93 : decode cX4_endDay 93 = .ok (.dup, 1) := by decide +kernel
theorem dX4_endDay_94 : decode cX4_endDay 94 = .ok (.getfield 148, 3) := by decide +kernel
theorem dX4_endDay_97 : decode cX4_endDay 97 = .ok (.iconst 1, 1) := by decide +kernel
theorem dX4_endDay_98 : decode cX4_endDay 98 = .ok (.iadd, 1) := by decide +kernel
theorem dX4_endDay_99 : decode cX4_endDay 99 = .ok (.putfield 148, 3) := by decide +kernel
theorem dX4_endDay_102 : decode cX4_endDay 102 = .ok (.aload_n 0, 1) := by decide +kernel
theorem dX4_endDay_103 : decode cX4_endDay 103 = .ok (.iconst 0, 1) := by decide +kernel
theorem dX4_endDay_104 : decode cX4_endDay 104 = .ok (.putfield 67, 3) := by decide +kernel
theorem dX4_endDay_107 : decode cX4_endDay 107 = .ok (.iload_n 1, 1) := by decide +kernel
theorem dX4_endDay_108 : decode cX4_endDay 108 = .ok (.ireturn, 1) := by decide +kernel
theorem dX4_pass_0 : decode cX4_pass 0 = .ok (.iload_n 1, 1) := by decide +kernel
theorem dX4_pass_1 : decode cX4_pass 1 = .ok (.iconst 1, 1) := by decide +kernel
theorem dX4_pass_2 : decode cX4_pass 2 = .ok (.bipush 100, 2) := by decide +kernel
theorem dX4_pass_4 : decode cX4_pass 4 = .ok (.invokestatic 57, 3) := by decide +kernel
theorem dX4_pass_7 : decode cX4_pass 7 = .ok (.istore_n 2, 1) := by decide +kernel
theorem dX4_pass_8 : decode cX4_pass 8 = .ok (.aload_n 0, 1) := by decide +kernel
theorem dX4_pass_9 : decode cX4_pass 9 = .ok (.iload_n 2, 1) := by decide +kernel
theorem dX4_pass_10 : decode cX4_pass 10 = .ok (.ifCond .ne 7, 3) := by decide +kernel
theorem dX4_pass_13 : decode cX4_pass 13 = .ok (.iconst 1, 1) := by decide +kernel
theorem dX4_pass_14 : decode cX4_pass 14 = .ok (.goto 20, 3) := by decide +kernel
theorem dX4_pass_17 : decode cX4_pass 17 = .ok (.aload_n 0, 1) := by decide +kernel
theorem dX4_pass_18 : decode cX4_pass 18 = .ok (.getfield 148, 3) := by decide +kernel
theorem dX4_pass_21 : decode cX4_pass 21 = .ok (.iload_n 1, 1) := by decide +kernel
theorem dX4_pass_22 : decode cX4_pass 22 = .ok (.iadd, 1) := by decide +kernel
theorem dX4_pass_23 : decode cX4_pass 23 = .ok (.sipush 10000, 3) := by decide +kernel
theorem dX4_pass_26 : decode cX4_pass 26 = .ok (.if_icmp .le 7, 3) := by decide +kernel
theorem dX4_pass_29 : decode cX4_pass 29 = .ok (.iconst 2, 1) := by decide +kernel
theorem dX4_pass_30 : decode cX4_pass 30 = .ok (.goto 4, 3) := by decide +kernel
theorem dX4_pass_33 : decode cX4_pass 33 = .ok (.iconst 0, 1) := by decide +kernel
theorem dX4_pass_34 : decode cX4_pass 34 = .ok (.invokevirtual 99, 3) := by decide +kernel
theorem dX4_pass_37 : decode cX4_pass 37 = .ok (.ifCond .ne 5, 3) := by decide +kernel
theorem dX4_pass_40 : decode cX4_pass 40 = .ok (.iconst 0, 1) := by decide +kernel
theorem dX4_pass_41 : decode cX4_pass 41 = .ok (.ireturn, 1) := by decide +kernel
theorem dX4_pass_42 : decode cX4_pass 42 = .ok (.iconst 0, 1) := by decide +kernel
theorem dX4_pass_43 : decode cX4_pass 43 = .ok (.istore_n 3, 1) := by decide +kernel
theorem dX4_pass_44 : decode cX4_pass 44 = .ok (.iconst 0, 1) := by decide +kernel
theorem dX4_pass_45 : decode cX4_pass 45 = .ok (.istore 4, 2) := by decide +kernel
theorem dX4_pass_47 : decode cX4_pass 47 = .ok (.iload 4, 2) := by decide +kernel
theorem dX4_pass_49 : decode cX4_pass 49 = .ok (.iload_n 1, 1) := by decide +kernel
theorem dX4_pass_50 : decode cX4_pass 50 = .ok (.if_icmp .ge 16, 3) := by decide +kernel
theorem dX4_pass_53 : decode cX4_pass 53 = .ok (.iload_n 3, 1) := by decide +kernel
theorem dX4_pass_54 : decode cX4_pass 54 = .ok (.aload_n 0, 1) := by decide +kernel
theorem dX4_pass_55 : decode cX4_pass 55 = .ok (.invokevirtual 160, 3) := by decide +kernel
theorem dX4_pass_58 : decode cX4_pass 58 = .ok (.iadd, 1) := by decide +kernel
theorem dX4_pass_59 : decode cX4_pass 59 = .ok (.istore_n 3, 1) := by decide +kernel
theorem dX4_pass_60 : decode cX4_pass 60 = .ok (.iinc 4 1, 3) := by decide +kernel
theorem dX4_pass_63 : decode cX4_pass 63 = .ok (.goto (-16), 3) := by decide +kernel
theorem dX4_pass_66 : decode cX4_pass 66 = .ok (.iload_n 3, 1) := by decide +kernel
theorem dX4_pass_67 : decode cX4_pass 67 = .ok (.ireturn, 1) := by decide +kernel
theorem dX4_today_0 : decode cX4_today 0 = .ok (.aload_n 0, 1) := by decide +kernel
theorem dX4_today_1 : decode cX4_today 1 = .ok (.iconst 0, 1) := by decide +kernel
theorem dX4_today_2 : decode cX4_today 2 = .ok (.putfield 54, 3) := by decide +kernel
theorem dX4_today_5 : decode cX4_today 5 = .ok (.aload_n 0, 1) := by decide +kernel
theorem dX4_today_6 : decode cX4_today 6 = .ok (.getfield 148, 3) := by decide +kernel
theorem dX4_today_9 : decode cX4_today 9 = .ok (.ireturn, 1) := by decide +kernel
theorem dX4_balance_0 : decode cX4_balance 0 = .ok (.aload_n 0, 1) := by decide +kernel
theorem dX4_balance_1 : decode cX4_balance 1 = .ok (.iconst 0, 1) := by decide +kernel
theorem dX4_balance_2 : decode cX4_balance 2 = .ok (.putfield 54, 3) := by decide +kernel
theorem dX4_balance_5 : decode cX4_balance 5 = .ok (.aload_n 0, 1) := by decide +kernel
theorem dX4_balance_6 : decode cX4_balance 6 = .ok (.getfield 86, 3) := by decide +kernel
theorem dX4_balance_9 : decode cX4_balance 9 = .ok (.aload_n 0, 1) := by decide +kernel
theorem dX4_balance_10 : decode cX4_balance 10 = .ok (.getfield 157, 3) := by decide +kernel
theorem dX4_balance_13 : decode cX4_balance 13 = .ok (.isub, 1) := by decide +kernel
theorem dX4_balance_14 : decode cX4_balance 14 = .ok (.istore_n 1, 1) := by decide +kernel
theorem dX4_balance_15 : decode cX4_balance 15 = .ok (.iconst 0, 1) := by decide +kernel
theorem dX4_balance_16 : decode cX4_balance 16 = .ok (.istore_n 2, 1) := by decide +kernel
theorem dX4_balance_17 : decode cX4_balance 17 = .ok (.iload_n 2, 1) := by decide +kernel
theorem dX4_balance_18 : decode cX4_balance 18 = .ok (.aload_n 0, 1) := by decide +kernel
theorem dX4_balance_19 : decode cX4_balance 19 = .ok (.getfield 64, 3) := by decide +kernel
theorem dX4_balance_22 : decode cX4_balance 22 = .ok (.if_icmp .ge 47, 3) := by decide +kernel
theorem dX4_balance_25 : decode cX4_balance 25 = .ok (.iload_n 1, 1) := by decide +kernel
theorem dX4_balance_26 : decode cX4_balance 26 = .ok (.aload_n 0, 1) := by decide +kernel
theorem dX4_balance_27 : decode cX4_balance 27 = .ok (.getfield 45, 3) := by decide +kernel
theorem dX4_balance_30 : decode cX4_balance 30 = .ok (.iload_n 2, 1) := by decide +kernel
theorem dX4_balance_31 : decode cX4_balance 31 = .ok (.iaload, 1) := by decide +kernel
theorem dX4_balance_32 : decode cX4_balance 32 = .ok (.iconst 2, 1) := by decide +kernel
theorem dX4_balance_33 : decode cX4_balance 33 = .ok (.if_icmp .ne 12, 3) := by decide +kernel
theorem dX4_balance_36 : decode cX4_balance 36 = .ok (.aload_n 0, 1) := by decide +kernel
theorem dX4_balance_37 : decode cX4_balance 37 = .ok (.getfield 48, 3) := by decide +kernel
theorem dX4_balance_40 : decode cX4_balance 40 = .ok (.iload_n 2, 1) := by decide +kernel
theorem dX4_balance_41 : decode cX4_balance 41 = .ok (.iaload, 1) := by decide +kernel
theorem dX4_balance_42 : decode cX4_balance 42 = .ok (.goto 19, 3) := by decide +kernel
theorem dX4_balance_45 : decode cX4_balance 45 = .ok (.aload_n 0, 1) := by decide +kernel
theorem dX4_balance_46 : decode cX4_balance 46 = .ok (.getfield 45, 3) := by decide +kernel
theorem dX4_balance_49 : decode cX4_balance 49 = .ok (.iload_n 2, 1) := by decide +kernel
theorem dX4_balance_50 : decode cX4_balance 50 = .ok (.iaload, 1) := by decide +kernel
theorem dX4_balance_51 : decode cX4_balance 51 = .ok (.iconst 3, 1) := by decide +kernel
theorem dX4_balance_52 : decode cX4_balance 52 = .ok (.if_icmp .ne 8, 3) := by decide +kernel
theorem dX4_balance_55 : decode cX4_balance 55 = .ok (.bipush 50, 2) := by decide +kernel
theorem dX4_balance_57 : decode cX4_balance 57 = .ok (.goto 4, 3) := by decide +kernel
theorem dX4_balance_60 : decode cX4_balance 60 = .ok (.iconst 0, 1) := by decide +kernel
theorem dX4_balance_61 : decode cX4_balance 61 = .ok (.isub, 1) := by decide +kernel
theorem dX4_balance_62 : decode cX4_balance 62 = .ok (.istore_n 1, 1) := by decide +kernel
theorem dX4_balance_63 : decode cX4_balance 63 = .ok (.iinc 2 1, 3) := by decide +kernel
theorem dX4_balance_66 : decode cX4_balance 66 = .ok (.goto (-49), 3) := by decide +kernel
theorem dX4_balance_69 : decode cX4_balance 69 = .ok (.iload_n 1, 1) := by decide +kernel
theorem dX4_balance_70 : decode cX4_balance 70 = .ok (.ireturn, 1) := by decide +kernel
theorem dJ6_bitCount_0f7a4_0 : decode cJ6_bitCount_0f7a4 0 = .ok (.iload_n 0, 1) := by decide +kernel
theorem dJ6_bitCount_0f7a4_1 : decode cJ6_bitCount_0f7a4 1 = .ok (.iload_n 0, 1) := by decide +kernel
theorem dJ6_bitCount_0f7a4_2 : decode cJ6_bitCount_0f7a4 2 = .ok (.iconst 1, 1) := by decide +kernel
theorem dJ6_bitCount_0f7a4_3 : decode cJ6_bitCount_0f7a4 3 = .ok (.iushr, 1) := by decide +kernel
theorem dJ6_bitCount_0f7a4_4 : decode cJ6_bitCount_0f7a4 4 = .ok (.ldc_w 265, 3) := by decide +kernel
theorem dJ6_bitCount_0f7a4_7 : decode cJ6_bitCount_0f7a4 7 = .ok (.iand, 1) := by decide +kernel
theorem dJ6_bitCount_0f7a4_8 : decode cJ6_bitCount_0f7a4 8 = .ok (.isub, 1) := by decide +kernel
theorem dJ6_bitCount_0f7a4_9 : decode cJ6_bitCount_0f7a4 9 = .ok (.istore_n 0, 1) := by decide +kernel
theorem dJ6_bitCount_0f7a4_10 : decode cJ6_bitCount_0f7a4 10 = .ok (.iload_n 0, 1) := by decide +kernel
theorem dJ6_bitCount_0f7a4_11 : decode cJ6_bitCount_0f7a4 11 = .ok (.ldc_w 266, 3) := by decide +kernel
theorem dJ6_bitCount_0f7a4_14 : decode cJ6_bitCount_0f7a4 14 = .ok (.iand, 1) := by decide +kernel
theorem dJ6_bitCount_0f7a4_15 : decode cJ6_bitCount_0f7a4 15 = .ok (.iload_n 0, 1) := by decide +kernel
theorem dJ6_bitCount_0f7a4_16 : decode cJ6_bitCount_0f7a4 16 = .ok (.iconst 2, 1) := by decide +kernel
theorem dJ6_bitCount_0f7a4_17 : decode cJ6_bitCount_0f7a4 17 = .ok (.iushr, 1) := by decide +kernel
theorem dJ6_bitCount_0f7a4_18 : decode cJ6_bitCount_0f7a4 18 = .ok (.ldc_w 266, 3) := by decide +kernel
theorem dJ6_bitCount_0f7a4_21 : decode cJ6_bitCount_0f7a4 21 = .ok (.iand, 1) := by decide +kernel
theorem dJ6_bitCount_0f7a4_22 : decode cJ6_bitCount_0f7a4 22 = .ok (.iadd, 1) := by decide +kernel
theorem dJ6_bitCount_0f7a4_23 : decode cJ6_bitCount_0f7a4 23 = .ok (.istore_n 0, 1) := by decide +kernel
theorem dJ6_bitCount_0f7a4_24 : decode cJ6_bitCount_0f7a4 24 = .ok (.iload_n 0, 1) := by decide +kernel
theorem dJ6_bitCount_0f7a4_25 : decode cJ6_bitCount_0f7a4 25 = .ok (.iload_n 0, 1) := by decide +kernel
theorem dJ6_bitCount_0f7a4_26 : decode cJ6_bitCount_0f7a4 26 = .ok (.iconst 4, 1) := by decide +kernel
theorem dJ6_bitCount_0f7a4_27 : decode cJ6_bitCount_0f7a4 27 = .ok (.iushr, 1) := by decide +kernel
theorem dJ6_bitCount_0f7a4_28 : decode cJ6_bitCount_0f7a4 28 = .ok (.iadd, 1) := by decide +kernel
theorem dJ6_bitCount_0f7a4_29 : decode cJ6_bitCount_0f7a4 29 = .ok (.ldc_w 267, 3) := by decide +kernel
theorem dJ6_bitCount_0f7a4_32 : decode cJ6_bitCount_0f7a4 32 = .ok (.iand, 1) := by decide +kernel
theorem dJ6_bitCount_0f7a4_33 : decode cJ6_bitCount_0f7a4 33 = .ok (.istore_n 0, 1) := by decide +kernel
theorem dJ6_bitCount_0f7a4_34 : decode cJ6_bitCount_0f7a4 34 = .ok (.iload_n 0, 1) := by decide +kernel
theorem dJ6_bitCount_0f7a4_35 : decode cJ6_bitCount_0f7a4 35 = .ok (.iload_n 0, 1) := by decide +kernel
theorem dJ6_bitCount_0f7a4_36 : decode cJ6_bitCount_0f7a4 36 = .ok (.bipush 8, 2) := by decide +kernel
theorem dJ6_bitCount_0f7a4_38 : decode cJ6_bitCount_0f7a4 38 = .ok (.iushr, 1) := by decide +kernel
theorem dJ6_bitCount_0f7a4_39 : decode cJ6_bitCount_0f7a4 39 = .ok (.iadd, 1) := by decide +kernel
theorem dJ6_bitCount_0f7a4_40 : decode cJ6_bitCount_0f7a4 40 = .ok (.istore_n 0, 1) := by decide +kernel
theorem dJ6_bitCount_0f7a4_41 : decode cJ6_bitCount_0f7a4 41 = .ok (.iload_n 0, 1) := by decide +kernel
theorem dJ6_bitCount_0f7a4_42 : decode cJ6_bitCount_0f7a4 42 = .ok (.iload_n 0, 1) := by decide +kernel
theorem dJ6_bitCount_0f7a4_43 : decode cJ6_bitCount_0f7a4 43 = .ok (.bipush 16, 2) := by decide +kernel
theorem dJ6_bitCount_0f7a4_45 : decode cJ6_bitCount_0f7a4 45 = .ok (.iushr, 1) := by decide +kernel
theorem dJ6_bitCount_0f7a4_46 : decode cJ6_bitCount_0f7a4 46 = .ok (.iadd, 1) := by decide +kernel
theorem dJ6_bitCount_0f7a4_47 : decode cJ6_bitCount_0f7a4 47 = .ok (.istore_n 0, 1) := by decide +kernel
theorem dJ6_bitCount_0f7a4_48 : decode cJ6_bitCount_0f7a4 48 = .ok (.iload_n 0, 1) := by decide +kernel
theorem dJ6_bitCount_0f7a4_49 : decode cJ6_bitCount_0f7a4 49 = .ok (.bipush 63, 2) := by decide +kernel
theorem dJ6_bitCount_0f7a4_51 : decode cJ6_bitCount_0f7a4 51 = .ok (.iand, 1) := by decide +kernel
theorem dJ6_bitCount_0f7a4_52 : decode cJ6_bitCount_0f7a4 52 = .ok (.ireturn, 1) := by decide +kernel
theorem dJ9_max_7cf53_0 : decode cJ9_max_7cf53 0 = .ok (.iload_n 0, 1) := by decide +kernel
theorem dJ9_max_7cf53_1 : decode cJ9_max_7cf53 1 = .ok (.iload_n 1, 1) := by decide +kernel
theorem dJ9_max_7cf53_2 : decode cJ9_max_7cf53 2 = .ok (.if_icmp .lt 7, 3) := by decide +kernel
theorem dJ9_max_7cf53_5 : decode cJ9_max_7cf53 5 = .ok (.iload_n 0, 1) := by decide +kernel
theorem dJ9_max_7cf53_6 : decode cJ9_max_7cf53 6 = .ok (.goto 4, 3) := by decide +kernel
theorem dJ9_max_7cf53_9 : decode cJ9_max_7cf53 9 = .ok (.iload_n 1, 1) := by decide +kernel
theorem dJ9_max_7cf53_10 : decode cJ9_max_7cf53 10 = .ok (.ireturn, 1) := by decide +kernel
theorem dL_arrive_0 : decode cL_arrive 0 = .ok (.aload 4, 2) := by decide +kernel
theorem dL_arrive_2 : decode cL_arrive 2 = .ok (.iconst 0, 1) := by decide +kernel
theorem dL_arrive_3 : decode cL_arrive 3 = .ok (.aload_n 0, 1) := by decide +kernel
theorem dL_arrive_4 : decode cL_arrive 4 = .ok (.iload_n 1, 1) := by decide +kernel
theorem dL_arrive_5 : decode cL_arrive 5 = .ok (.iload_n 2, 1) := by decide +kernel
theorem dL_arrive_6 : decode cL_arrive 6 = .ok (.iload_n 3, 1) := by decide +kernel
theorem dL_arrive_7 : decode cL_arrive 7 = .ok (.invokevirtual 7, 3) := by decide +kernel
theorem dL_arrive_10 : decode cL_arrive 10 = .ok (.i2l, 1) := by decide +kernel
theorem dL_arrive_11 : decode cL_arrive 11 = .ok (.lastore, 1) := by decide +kernel
theorem dL_arrive_12 : decode cL_arrive 12 = .ok (.goto 11, 3) := by decide +kernel
theorem dL_arrive_15 : decode cL_arrive 15 = .ok (.astore 5, 2) := by decide +kernel
theorem dL_arrive_17 : decode cL_arrive 17 = .ok (.iconst 1, 1) := by decide +kernel
theorem dL_arrive_18 : decode cL_arrive 18 = .ok (.ireturn, 1) := by decide +kernel
theorem dL_arrive_19 : decode cL_arrive 19 = .ok (.astore 5, 2) := by decide +kernel
theorem dL_arrive_21 : decode cL_arrive 21 = .ok (.iconst 2, 1) := by decide +kernel
theorem dL_arrive_22 : decode cL_arrive 22 = .ok (.ireturn, 1) := by decide +kernel
theorem dL_arrive_23 : decode cL_arrive 23 = .ok (.iconst 0, 1) := by decide +kernel
theorem dL_arrive_24 : decode cL_arrive 24 = .ok (.ireturn, 1) := by decide +kernel
theorem dL_lift_0 : decode cL_lift 0 = .ok (.aload_n 2, 1) := by decide +kernel
theorem dL_lift_1 : decode cL_lift 1 = .ok (.iconst 0, 1) := by decide +kernel
theorem dL_lift_2 : decode cL_lift 2 = .ok (.aload_n 0, 1) := by decide +kernel
theorem dL_lift_3 : decode cL_lift 3 = .ok (.iload_n 1, 1) := by decide +kernel
theorem dL_lift_4 : decode cL_lift 4 = .ok (.invokevirtual 17, 3) := by decide +kernel
theorem dL_lift_7 : decode cL_lift 7 = .ok (.i2l, 1) := by decide +kernel
theorem dL_lift_8 : decode cL_lift 8 = .ok (.lastore, 1) := by decide +kernel
theorem dL_lift_9 : decode cL_lift 9 = .ok (.goto 9, 3) := by decide +kernel
theorem dL_lift_12 : decode cL_lift 12 = .ok (.astore_n 3, 1) := by decide +kernel
theorem dL_lift_13 : decode cL_lift 13 = .ok (.iconst 1, 1) := by decide +kernel
theorem dL_lift_14 : decode cL_lift 14 = .ok (.ireturn, 1) := by decide +kernel
theorem dL_lift_15 : decode cL_lift 15 = .ok (.astore_n 3, 1) := by decide +kernel
theorem dL_lift_16 : decode cL_lift 16 = .ok (.iconst 2, 1) := by decide +kernel
theorem dL_lift_17 : decode cL_lift 17 = .ok (.ireturn, 1) := by decide +kernel
theorem dL_lift_18 : decode cL_lift 18 = .ok (.iconst 0, 1) := by decide +kernel
theorem dL_lift_19 : decode cL_lift 19 = .ok (.ireturn, 1) := by decide +kernel
theorem dL_drop_0 : decode cL_drop 0 = .ok (.aload_n 2, 1) := by decide +kernel
theorem dL_drop_1 : decode cL_drop 1 = .ok (.iconst 0, 1) := by decide +kernel
theorem dL_drop_2 : decode cL_drop 2 = .ok (.aload_n 0, 1) := by decide +kernel
theorem dL_drop_3 : decode cL_drop 3 = .ok (.iload_n 1, 1) := by decide +kernel
theorem dL_drop_4 : decode cL_drop 4 = .ok (.invokevirtual 21, 3) := by decide +kernel
theorem dL_drop_7 : decode cL_drop 7 = .ok (.i2l, 1) := by decide +kernel
theorem dL_drop_8 : decode cL_drop 8 = .ok (.lastore, 1) := by decide +kernel
theorem dL_drop_9 : decode cL_drop 9 = .ok (.goto 9, 3) := by decide +kernel
theorem dL_drop_12 : decode cL_drop 12 = .ok (.astore_n 3, 1) := by decide +kernel
theorem dL_drop_13 : decode cL_drop 13 = .ok (.iconst 1, 1) := by decide +kernel
theorem dL_drop_14 : decode cL_drop 14 = .ok (.ireturn, 1) := by decide +kernel
theorem dL_drop_15 : decode cL_drop 15 = .ok (.astore_n 3, 1) := by decide +kernel
theorem dL_drop_16 : decode cL_drop 16 = .ok (.iconst 2, 1) := by decide +kernel
theorem dL_drop_17 : decode cL_drop 17 = .ok (.ireturn, 1) := by decide +kernel
theorem dL_drop_18 : decode cL_drop 18 = .ok (.iconst 0, 1) := by decide +kernel
theorem dL_drop_19 : decode cL_drop 19 = .ok (.ireturn, 1) := by decide +kernel
theorem dL_dig_0 : decode cL_dig 0 = .ok (.aload_n 2, 1) := by decide +kernel
theorem dL_dig_1 : decode cL_dig 1 = .ok (.iconst 0, 1) := by decide +kernel
theorem dL_dig_2 : decode cL_dig 2 = .ok (.aload_n 0, 1) := by decide +kernel
theorem dL_dig_3 : decode cL_dig 3 = .ok (.iload_n 1, 1) := by decide +kernel
theorem dL_dig_4 : decode cL_dig 4 = .ok (.invokevirtual 24, 3) := by decide +kernel
theorem dL_dig_7 : decode cL_dig 7 = .ok (.i2l, 1) := by decide +kernel
theorem dL_dig_8 : decode cL_dig 8 = .ok (.lastore, 1) := by decide +kernel
theorem dL_dig_9 : decode cL_dig 9 = .ok (.goto 9, 3) := by decide +kernel
theorem dL_dig_12 : decode cL_dig 12 = .ok (.astore_n 3, 1) := by decide +kernel
theorem dL_dig_13 : decode cL_dig 13 = .ok (.iconst 1, 1) := by decide +kernel
theorem dL_dig_14 : decode cL_dig 14 = .ok (.ireturn, 1) := by decide +kernel
theorem dL_dig_15 : decode cL_dig 15 = .ok (.astore_n 3, 1) := by decide +kernel
theorem dL_dig_16 : decode cL_dig 16 = .ok (.iconst 2, 1) := by decide +kernel
theorem dL_dig_17 : decode cL_dig 17 = .ok (.ireturn, 1) := by decide +kernel
theorem dL_dig_18 : decode cL_dig 18 = .ok (.iconst 0, 1) := by decide +kernel
theorem dL_dig_19 : decode cL_dig 19 = .ok (.ireturn, 1) := by decide +kernel
theorem dL_height_0 : decode cL_height 0 = .ok (.aload_n 2, 1) := by decide +kernel
theorem dL_height_1 : decode cL_height 1 = .ok (.iconst 0, 1) := by decide +kernel
theorem dL_height_2 : decode cL_height 2 = .ok (.aload_n 0, 1) := by decide +kernel
theorem dL_height_3 : decode cL_height 3 = .ok (.iload_n 1, 1) := by decide +kernel
theorem dL_height_4 : decode cL_height 4 = .ok (.invokevirtual 29, 3) := by decide +kernel
theorem dL_height_7 : decode cL_height 7 = .ok (.i2l, 1) := by decide +kernel
theorem dL_height_8 : decode cL_height 8 = .ok (.lastore, 1) := by decide +kernel
theorem dL_height_9 : decode cL_height 9 = .ok (.goto 6, 3) := by decide +kernel
theorem dL_height_12 : decode cL_height 12 = .ok (.astore_n 3, 1) := by decide +kernel
theorem dL_height_13 : decode cL_height 13 = .ok (.iconst 1, 1) := by decide +kernel
theorem dL_height_14 : decode cL_height 14 = .ok (.ireturn, 1) := by decide +kernel
theorem dL_height_15 : decode cL_height 15 = .ok (.iconst 0, 1) := by decide +kernel
theorem dL_height_16 : decode cL_height 16 = .ok (.ireturn, 1) := by decide +kernel
theorem dL_at_0 : decode cL_at 0 = .ok (.aload_n 3, 1) := by decide +kernel
theorem dL_at_1 : decode cL_at 1 = .ok (.iconst 0, 1) := by decide +kernel
theorem dL_at_2 : decode cL_at 2 = .ok (.aload_n 0, 1) := by decide +kernel
theorem dL_at_3 : decode cL_at 3 = .ok (.iload_n 1, 1) := by decide +kernel
theorem dL_at_4 : decode cL_at 4 = .ok (.iload_n 2, 1) := by decide +kernel
theorem dL_at_5 : decode cL_at 5 = .ok (.invokevirtual 32, 3) := by decide +kernel
theorem dL_at_8 : decode cL_at 8 = .ok (.i2l, 1) := by decide +kernel
theorem dL_at_9 : decode cL_at 9 = .ok (.lastore, 1) := by decide +kernel
theorem dL_at_10 : decode cL_at 10 = .ok (.goto 7, 3) := by decide +kernel
theorem dL_at_13 : decode cL_at 13 = .ok (.astore 4, 2) := by decide +kernel
theorem dL_at_15 : decode cL_at 15 = .ok (.iconst 1, 1) := by decide +kernel
theorem dL_at_16 : decode cL_at 16 = .ok (.ireturn, 1) := by decide +kernel
theorem dL_at_17 : decode cL_at 17 = .ok (.iconst 0, 1) := by decide +kernel
theorem dL_at_18 : decode cL_at 18 = .ok (.ireturn, 1) := by decide +kernel
theorem dL_stackOf_0 : decode cL_stackOf 0 = .ok (.aload_n 2, 1) := by decide +kernel
theorem dL_stackOf_1 : decode cL_stackOf 1 = .ok (.iconst 0, 1) := by decide +kernel
theorem dL_stackOf_2 : decode cL_stackOf 2 = .ok (.aload_n 0, 1) := by decide +kernel
theorem dL_stackOf_3 : decode cL_stackOf 3 = .ok (.iload_n 1, 1) := by decide +kernel
theorem dL_stackOf_4 : decode cL_stackOf 4 = .ok (.invokevirtual 36, 3) := by decide +kernel
theorem dL_stackOf_7 : decode cL_stackOf 7 = .ok (.i2l, 1) := by decide +kernel
theorem dL_stackOf_8 : decode cL_stackOf 8 = .ok (.lastore, 1) := by decide +kernel
theorem dL_stackOf_9 : decode cL_stackOf 9 = .ok (.goto 6, 3) := by decide +kernel
theorem dL_stackOf_12 : decode cL_stackOf 12 = .ok (.astore_n 3, 1) := by decide +kernel
theorem dL_stackOf_13 : decode cL_stackOf 13 = .ok (.iconst 1, 1) := by decide +kernel
theorem dL_stackOf_14 : decode cL_stackOf 14 = .ok (.ireturn, 1) := by decide +kernel
theorem dL_stackOf_15 : decode cL_stackOf 15 = .ok (.iconst 0, 1) := by decide +kernel
theorem dL_stackOf_16 : decode cL_stackOf 16 = .ok (.ireturn, 1) := by decide +kernel
theorem dL_fewestLifts_0 : decode cL_fewestLifts 0 = .ok (.aload_n 2, 1) := by decide +kernel
theorem dL_fewestLifts_1 : decode cL_fewestLifts 1 = .ok (.iconst 0, 1) := by decide +kernel
theorem dL_fewestLifts_2 : decode cL_fewestLifts 2 = .ok (.aload_n 0, 1) := by decide +kernel
theorem dL_fewestLifts_3 : decode cL_fewestLifts 3 = .ok (.iload_n 1, 1) := by decide +kernel
theorem dL_fewestLifts_4 : decode cL_fewestLifts 4 = .ok (.invokevirtual 39, 3) := by decide +kernel
theorem dL_fewestLifts_7 : decode cL_fewestLifts 7 = .ok (.i2l, 1) := by decide +kernel
theorem dL_fewestLifts_8 : decode cL_fewestLifts 8 = .ok (.lastore, 1) := by decide +kernel
theorem dL_fewestLifts_9 : decode cL_fewestLifts 9 = .ok (.goto 9, 3) := by decide +kernel
theorem dL_fewestLifts_12 : decode cL_fewestLifts 12 = .ok (.astore_n 3, 1) := by decide +kernel
theorem dL_fewestLifts_13 : decode cL_fewestLifts 13 = .ok (.iconst 1, 1) := by decide +kernel
theorem dL_fewestLifts_14 : decode cL_fewestLifts 14 = .ok (.ireturn, 1) := by decide +kernel
theorem dL_fewestLifts_15 : decode cL_fewestLifts 15 = .ok (.astore_n 3, 1) := by decide +kernel
theorem dL_fewestLifts_16 : decode cL_fewestLifts 16 = .ok (.iconst 2, 1) := by decide +kernel
theorem dL_fewestLifts_17 : decode cL_fewestLifts 17 = .ok (.ireturn, 1) := by decide +kernel
theorem dL_fewestLifts_18 : decode cL_fewestLifts 18 = .ok (.iconst 0, 1) := by decide +kernel
theorem dL_fewestLifts_19 : decode cL_fewestLifts 19 = .ok (.ireturn, 1) := by decide +kernel
theorem dL_tell_0 : decode cL_tell 0 = .ok (.aload 5, 2) := by decide +kernel
theorem dL_tell_2 : decode cL_tell 2 = .ok (.iconst 0, 1) := by decide +kernel
theorem dL_tell_3 : decode cL_tell 3 = .ok (.aload_n 0, 1) := by decide +kernel
theorem dL_tell_4 : decode cL_tell 4 = .ok (.iload_n 1, 1) := by decide +kernel
theorem dL_tell_5 : decode cL_tell 5 = .ok (.iload_n 2, 1) := by decide +kernel
theorem dL_tell_6 : decode cL_tell 6 = .ok (.iload_n 3, 1) := by decide +kernel
theorem dL_tell_7 : decode cL_tell 7 = .ok (.iload 4, 2) := by decide +kernel
theorem dL_tell_9 : decode cL_tell 9 = .ok (.invokevirtual 42, 3) := by decide +kernel
theorem dL_tell_12 : decode cL_tell 12 = .ok (.i2l, 1) := by decide +kernel
theorem dL_tell_13 : decode cL_tell 13 = .ok (.lastore, 1) := by decide +kernel
theorem dL_tell_14 : decode cL_tell 14 = .ok (.goto 11, 3) := by decide +kernel
theorem dL_tell_17 : decode cL_tell 17 = .ok (.astore 6, 2) := by decide +kernel
theorem dL_tell_19 : decode cL_tell 19 = .ok (.iconst 1, 1) := by decide +kernel
theorem dL_tell_20 : decode cL_tell 20 = .ok (.ireturn, 1) := by decide +kernel
theorem dL_tell_21 : decode cL_tell 21 = .ok (.astore 6, 2) := by decide +kernel
theorem dL_tell_23 : decode cL_tell 23 = .ok (.iconst 2, 1) := by decide +kernel
theorem dL_tell_24 : decode cL_tell 24 = .ok (.ireturn, 1) := by decide +kernel
theorem dL_tell_25 : decode cL_tell 25 = .ok (.iconst 0, 1) := by decide +kernel
theorem dL_tell_26 : decode cL_tell 26 = .ok (.ireturn, 1) := by decide +kernel
theorem dL_hasPaid_0 : decode cL_hasPaid 0 = .ok (.aload_n 2, 1) := by decide +kernel
theorem dL_hasPaid_1 : decode cL_hasPaid 1 = .ok (.iconst 0, 1) := by decide +kernel
theorem dL_hasPaid_2 : decode cL_hasPaid 2 = .ok (.aload_n 0, 1) := by decide +kernel
theorem dL_hasPaid_3 : decode cL_hasPaid 3 = .ok (.iload_n 1, 1) := by decide +kernel
theorem dL_hasPaid_4 : decode cL_hasPaid 4 = .ok (.invokevirtual 46, 3) := by decide +kernel
theorem dL_hasPaid_7 : decode cL_hasPaid 7 = .ok (.ifCond .eq 7, 3) := by decide +kernel
theorem dL_hasPaid_10 : decode cL_hasPaid 10 = .ok (.lconst 1, 1) := by decide +kernel
theorem dL_hasPaid_11 : decode cL_hasPaid 11 = .ok (.goto 4, 3) := by decide +kernel
theorem dL_hasPaid_14 : decode cL_hasPaid 14 = .ok (.lconst 0, 1) := by decide +kernel
theorem dL_hasPaid_15 : decode cL_hasPaid 15 = .ok (.lastore, 1) := by decide +kernel
theorem dL_hasPaid_16 : decode cL_hasPaid 16 = .ok (.goto 6, 3) := by decide +kernel
theorem dL_hasPaid_19 : decode cL_hasPaid 19 = .ok (.astore_n 3, 1) := by decide +kernel
theorem dL_hasPaid_20 : decode cL_hasPaid 20 = .ok (.iconst 1, 1) := by decide +kernel
theorem dL_hasPaid_21 : decode cL_hasPaid 21 = .ok (.ireturn, 1) := by decide +kernel
theorem dL_hasPaid_22 : decode cL_hasPaid 22 = .ok (.iconst 0, 1) := by decide +kernel
theorem dL_hasPaid_23 : decode cL_hasPaid 23 = .ok (.ireturn, 1) := by decide +kernel
theorem dL_offer_0 : decode cL_offer 0 = .ok (.aload_n 3, 1) := by decide +kernel
theorem dL_offer_1 : decode cL_offer 1 = .ok (.iconst 0, 1) := by decide +kernel
theorem dL_offer_2 : decode cL_offer 2 = .ok (.aload_n 0, 1) := by decide +kernel
theorem dL_offer_3 : decode cL_offer 3 = .ok (.iload_n 1, 1) := by decide +kernel
theorem dL_offer_4 : decode cL_offer 4 = .ok (.iload_n 2, 1) := by decide +kernel
theorem dL_offer_5 : decode cL_offer 5 = .ok (.invokevirtual 50, 3) := by decide +kernel
theorem dL_offer_8 : decode cL_offer 8 = .ok (.i2l, 1) := by decide +kernel
theorem dL_offer_9 : decode cL_offer 9 = .ok (.lastore, 1) := by decide +kernel
theorem dL_offer_10 : decode cL_offer 10 = .ok (.goto 15, 3) := by decide +kernel
theorem dL_offer_13 : decode cL_offer 13 = .ok (.astore 4, 2) := by decide +kernel
theorem dL_offer_15 : decode cL_offer 15 = .ok (.iconst 1, 1) := by decide +kernel
theorem dL_offer_16 : decode cL_offer 16 = .ok (.ireturn, 1) := by decide +kernel
theorem dL_offer_17 : decode cL_offer 17 = .ok (.astore 4, 2) := by decide +kernel
theorem dL_offer_19 : decode cL_offer 19 = .ok (.iconst 2, 1) := by decide +kernel
theorem dL_offer_20 : decode cL_offer 20 = .ok (.ireturn, 1) := by decide +kernel
theorem dL_offer_21 : decode cL_offer 21 = .ok (.astore 4, 2) := by decide +kernel
theorem dL_offer_23 : decode cL_offer 23 = .ok (.iconst 3, 1) := by decide +kernel
theorem dL_offer_24 : decode cL_offer 24 = .ok (.ireturn, 1) := by decide +kernel
theorem dL_offer_25 : decode cL_offer 25 = .ok (.iconst 0, 1) := by decide +kernel
theorem dL_offer_26 : decode cL_offer 26 = .ok (.ireturn, 1) := by decide +kernel
theorem dL_bid_0 : decode cL_bid 0 = .ok (.aload_n 0, 1) := by decide +kernel
theorem dL_bid_1 : decode cL_bid 1 = .ok (.iload_n 1, 1) := by decide +kernel
theorem dL_bid_2 : decode cL_bid 2 = .ok (.iload_n 2, 1) := by decide +kernel
theorem dL_bid_3 : decode cL_bid 3 = .ok (.iload_n 3, 1) := by decide +kernel
theorem dL_bid_4 : decode cL_bid 4 = .ok (.invokevirtual 53, 3) := by decide +kernel
theorem dL_bid_7 : decode cL_bid 7 = .ok (.goto 15, 3) := by decide +kernel
theorem dL_bid_10 : decode cL_bid 10 = .ok (.astore 4, 2) := by decide +kernel
theorem dL_bid_12 : decode cL_bid 12 = .ok (.iconst 1, 1) := by decide +kernel
theorem dL_bid_13 : decode cL_bid 13 = .ok (.ireturn, 1) := by decide +kernel
theorem dL_bid_14 : decode cL_bid 14 = .ok (.astore 4, 2) := by decide +kernel
theorem dL_bid_16 : decode cL_bid 16 = .ok (.iconst 2, 1) := by decide +kernel
theorem dL_bid_17 : decode cL_bid 17 = .ok (.ireturn, 1) := by decide +kernel
theorem dL_bid_18 : decode cL_bid 18 = .ok (.astore 4, 2) := by decide +kernel
theorem dL_bid_20 : decode cL_bid 20 = .ok (.iconst 3, 1) := by decide +kernel
theorem dL_bid_21 : decode cL_bid 21 = .ok (.ireturn, 1) := by decide +kernel
theorem dL_bid_22 : decode cL_bid 22 = .ok (.iconst 0, 1) := by decide +kernel
theorem dL_bid_23 : decode cL_bid 23 = .ok (.ireturn, 1) := by decide +kernel
theorem dL_give_0 : decode cL_give 0 = .ok (.aload_n 2, 1) := by decide +kernel
theorem dL_give_1 : decode cL_give 1 = .ok (.iconst 0, 1) := by decide +kernel
theorem dL_give_2 : decode cL_give 2 = .ok (.aload_n 0, 1) := by decide +kernel
theorem dL_give_3 : decode cL_give 3 = .ok (.iload_n 1, 1) := by decide +kernel
theorem dL_give_4 : decode cL_give 4 = .ok (.invokevirtual 57, 3) := by decide +kernel
theorem dL_give_7 : decode cL_give 7 = .ok (.i2l, 1) := by decide +kernel
theorem dL_give_8 : decode cL_give 8 = .ok (.lastore, 1) := by decide +kernel
theorem dL_give_9 : decode cL_give 9 = .ok (.goto 9, 3) := by decide +kernel
theorem dL_give_12 : decode cL_give 12 = .ok (.astore_n 3, 1) := by decide +kernel
theorem dL_give_13 : decode cL_give 13 = .ok (.iconst 1, 1) := by decide +kernel
theorem dL_give_14 : decode cL_give 14 = .ok (.ireturn, 1) := by decide +kernel
theorem dL_give_15 : decode cL_give 15 = .ok (.astore_n 3, 1) := by decide +kernel
theorem dL_give_16 : decode cL_give 16 = .ok (.iconst 2, 1) := by decide +kernel
theorem dL_give_17 : decode cL_give 17 = .ok (.ireturn, 1) := by decide +kernel
theorem dL_give_18 : decode cL_give 18 = .ok (.iconst 0, 1) := by decide +kernel
theorem dL_give_19 : decode cL_give 19 = .ok (.ireturn, 1) := by decide +kernel
theorem dL_load_0 : decode cL_load 0 = .ok (.aload_n 1, 1) := by decide +kernel
theorem dL_load_1 : decode cL_load 1 = .ok (.iconst 0, 1) := by decide +kernel
theorem dL_load_2 : decode cL_load 2 = .ok (.aload_n 0, 1) := by decide +kernel
theorem dL_load_3 : decode cL_load 3 = .ok (.invokevirtual 60, 3) := by decide +kernel
theorem dL_load_6 : decode cL_load 6 = .ok (.i2l, 1) := by decide +kernel
theorem dL_load_7 : decode cL_load 7 = .ok (.lastore, 1) := by decide +kernel
theorem dL_load_8 : decode cL_load 8 = .ok (.goto 6, 3) := by decide +kernel
theorem dL_load_11 : decode cL_load 11 = .ok (.astore_n 2, 1) := by decide +kernel
theorem dL_load_12 : decode cL_load 12 = .ok (.iconst 1, 1) := by decide +kernel
theorem dL_load_13 : decode cL_load 13 = .ok (.ireturn, 1) := by decide +kernel
theorem dL_load_14 : decode cL_load 14 = .ok (.iconst 0, 1) := by decide +kernel
theorem dL_load_15 : decode cL_load 15 = .ok (.ireturn, 1) := by decide +kernel
theorem dL_state_0 : decode cL_state 0 = .ok (.aload_n 2, 1) := by decide +kernel
theorem dL_state_1 : decode cL_state 1 = .ok (.iconst 0, 1) := by decide +kernel
theorem dL_state_2 : decode cL_state 2 = .ok (.aload_n 0, 1) := by decide +kernel
theorem dL_state_3 : decode cL_state 3 = .ok (.iload_n 1, 1) := by decide +kernel
theorem dL_state_4 : decode cL_state 4 = .ok (.invokevirtual 64, 3) := by decide +kernel
theorem dL_state_7 : decode cL_state 7 = .ok (.i2l, 1) := by decide +kernel
theorem dL_state_8 : decode cL_state 8 = .ok (.lastore, 1) := by decide +kernel
theorem dL_state_9 : decode cL_state 9 = .ok (.goto 6, 3) := by decide +kernel
theorem dL_state_12 : decode cL_state 12 = .ok (.astore_n 3, 1) := by decide +kernel
theorem dL_state_13 : decode cL_state 13 = .ok (.iconst 1, 1) := by decide +kernel
theorem dL_state_14 : decode cL_state 14 = .ok (.ireturn, 1) := by decide +kernel
theorem dL_state_15 : decode cL_state 15 = .ok (.iconst 0, 1) := by decide +kernel
theorem dL_state_16 : decode cL_state 16 = .ok (.ireturn, 1) := by decide +kernel
theorem dL_pass_0 : decode cL_pass 0 = .ok (.aload_n 2, 1) := by decide +kernel
theorem dL_pass_1 : decode cL_pass 1 = .ok (.iconst 0, 1) := by decide +kernel
theorem dL_pass_2 : decode cL_pass 2 = .ok (.aload_n 0, 1) := by decide +kernel
theorem dL_pass_3 : decode cL_pass 3 = .ok (.iload_n 1, 1) := by decide +kernel
theorem dL_pass_4 : decode cL_pass 4 = .ok (.invokevirtual 67, 3) := by decide +kernel
theorem dL_pass_7 : decode cL_pass 7 = .ok (.i2l, 1) := by decide +kernel
theorem dL_pass_8 : decode cL_pass 8 = .ok (.lastore, 1) := by decide +kernel
theorem dL_pass_9 : decode cL_pass 9 = .ok (.goto 9, 3) := by decide +kernel
theorem dL_pass_12 : decode cL_pass 12 = .ok (.astore_n 3, 1) := by decide +kernel
theorem dL_pass_13 : decode cL_pass 13 = .ok (.iconst 1, 1) := by decide +kernel
theorem dL_pass_14 : decode cL_pass 14 = .ok (.ireturn, 1) := by decide +kernel
theorem dL_pass_15 : decode cL_pass 15 = .ok (.astore_n 3, 1) := by decide +kernel
theorem dL_pass_16 : decode cL_pass 16 = .ok (.iconst 2, 1) := by decide +kernel
theorem dL_pass_17 : decode cL_pass 17 = .ok (.ireturn, 1) := by decide +kernel
theorem dL_pass_18 : decode cL_pass 18 = .ok (.iconst 0, 1) := by decide +kernel
theorem dL_pass_19 : decode cL_pass 19 = .ok (.ireturn, 1) := by decide +kernel
end
