section
-- ===== PART A: goes FIRST, ahead of the names: the tables' words, and 'selects' of the private methods out of them =====
/-- a private method of a class that the tables say can be made, by its rows of tables_1 -/
def lw_okq (q : MethodName × Nat) : Prop := (q.1.cls ≠ "java/lang/invoke/MethodHandle" ∧ q.1.cls ≠ "java/lang/invoke/VarHandle") ∧ Cond.instantiable q.1.cls q.2 ∈ tables_1 ∧ Cond.privateMethod q.1 ∈ tables_1 ∧ Cond.instanceMethod q.1 ∈ tables_1
theorem lw_p0 : lw_okq (⟨"WinderLadders", "keptIfDone", "(I)I"⟩, 6) := ⟨⟨by decide +kernel, by decide +kernel⟩, List.mem_of_getElem? (i := 11) (by decide +kernel), List.mem_of_getElem? (i := 211) (by decide +kernel), List.mem_of_getElem? (i := 212) (by decide +kernel)⟩
theorem lw_p1 : lw_okq (⟨"WinderLadders$History", "dropOldest", "()V"⟩, 2) := ⟨⟨by decide +kernel, by decide +kernel⟩, List.mem_of_getElem? (i := 106) (by decide +kernel), List.mem_of_getElem? (i := 219) (by decide +kernel), List.mem_of_getElem? (i := 220) (by decide +kernel)⟩
theorem lw_p2 : lw_okq (⟨"WinderLadders", "chooseRow", "(I)I"⟩, 6) := ⟨⟨by decide +kernel, by decide +kernel⟩, List.mem_of_getElem? (i := 11) (by decide +kernel), List.mem_of_getElem? (i := 259) (by decide +kernel), List.mem_of_getElem? (i := 260) (by decide +kernel)⟩
theorem lw_p3 : lw_okq (⟨"WinderLadders$Pad", "take", "(C)Z"⟩, 5) := ⟨⟨by decide +kernel, by decide +kernel⟩, List.mem_of_getElem? (i := 123) (by decide +kernel), List.mem_of_getElem? (i := 454) (by decide +kernel), List.mem_of_getElem? (i := 455) (by decide +kernel)⟩
theorem lw_p4 : lw_okq (⟨"WinderLadders$Pad", "here", "()C"⟩, 5) := ⟨⟨by decide +kernel, by decide +kernel⟩, List.mem_of_getElem? (i := 123) (by decide +kernel), List.mem_of_getElem? (i := 458) (by decide +kernel), List.mem_of_getElem? (i := 459) (by decide +kernel)⟩
theorem lw_p5 : lw_okq (⟨"WinderLadders$Pad", "readNumber", "(I)Z"⟩, 5) := ⟨⟨by decide +kernel, by decide +kernel⟩, List.mem_of_getElem? (i := 123) (by decide +kernel), List.mem_of_getElem? (i := 463) (by decide +kernel), List.mem_of_getElem? (i := 464) (by decide +kernel)⟩
theorem lw_p6 : lw_okq (⟨"WinderLadders$Pad", "readValue", "()Z"⟩, 5) := ⟨⟨by decide +kernel, by decide +kernel⟩, List.mem_of_getElem? (i := 123) (by decide +kernel), List.mem_of_getElem? (i := 471) (by decide +kernel), List.mem_of_getElem? (i := 472) (by decide +kernel)⟩
theorem lw_p7 : lw_okq (⟨"WinderLadders$Pad", "readNumbers", "()Z"⟩, 5) := ⟨⟨by decide +kernel, by decide +kernel⟩, List.mem_of_getElem? (i := 123) (by decide +kernel), List.mem_of_getElem? (i := 475) (by decide +kernel), List.mem_of_getElem? (i := 476) (by decide +kernel)⟩
theorem lw_p8 : lw_okq (⟨"WinderLadders", "carryOrdersOut", "()I"⟩, 6) := ⟨⟨by decide +kernel, by decide +kernel⟩, List.mem_of_getElem? (i := 11) (by decide +kernel), List.mem_of_getElem? (i := 483) (by decide +kernel), List.mem_of_getElem? (i := 484) (by decide +kernel)⟩
theorem lw_p9 : lw_okq (⟨"WinderLadders", "carryOneOut", "()I"⟩, 6) := ⟨⟨by decide +kernel, by decide +kernel⟩, List.mem_of_getElem? (i := 11) (by decide +kernel), List.mem_of_getElem? (i := 489) (by decide +kernel), List.mem_of_getElem? (i := 490) (by decide +kernel)⟩
theorem lw_p10 : lw_okq (⟨"WinderLaddersModel", "know", "()V"⟩, 17) := ⟨⟨by decide +kernel, by decide +kernel⟩, List.mem_of_getElem? (i := 511) (by decide +kernel), List.mem_of_getElem? (i := 576) (by decide +kernel), List.mem_of_getElem? (i := 577) (by decide +kernel)⟩
theorem lw_p11 : lw_okq (⟨"WinderLaddersModel", "hangFault", "(III)I"⟩, 17) := ⟨⟨by decide +kernel, by decide +kernel⟩, List.mem_of_getElem? (i := 511) (by decide +kernel), List.mem_of_getElem? (i := 584) (by decide +kernel), List.mem_of_getElem? (i := 585) (by decide +kernel)⟩
theorem lw_p12 : lw_okq (⟨"WinderLaddersModel", "hangs", "(III)I"⟩, 17) := ⟨⟨by decide +kernel, by decide +kernel⟩, List.mem_of_getElem? (i := 511) (by decide +kernel), List.mem_of_getElem? (i := 588) (by decide +kernel), List.mem_of_getElem? (i := 589) (by decide +kernel)⟩
theorem lw_p13 : lw_okq (⟨"WinderLaddersModel", "ladderFault", "(I)I"⟩, 17) := ⟨⟨by decide +kernel, by decide +kernel⟩, List.mem_of_getElem? (i := 511) (by decide +kernel), List.mem_of_getElem? (i := 599) (by decide +kernel), List.mem_of_getElem? (i := 600) (by decide +kernel)⟩
theorem lw_p14 : lw_okq (⟨"WinderLaddersModel", "buys", "(I)I"⟩, 17) := ⟨⟨by decide +kernel, by decide +kernel⟩, List.mem_of_getElem? (i := 511) (by decide +kernel), List.mem_of_getElem? (i := 603) (by decide +kernel), List.mem_of_getElem? (i := 604) (by decide +kernel)⟩
theorem lw_p15 : lw_okq (⟨"WinderLaddersModel", "isClock", "(I)Z"⟩, 17) := ⟨⟨by decide +kernel, by decide +kernel⟩, List.mem_of_getElem? (i := 511) (by decide +kernel), List.mem_of_getElem? (i := 611) (by decide +kernel), List.mem_of_getElem? (i := 612) (by decide +kernel)⟩
def lw_privs_1 : List (MethodName × Nat) := [(⟨"WinderLadders", "keptIfDone", "(I)I"⟩, 6), (⟨"WinderLadders$History", "dropOldest", "()V"⟩, 2), (⟨"WinderLadders", "chooseRow", "(I)I"⟩, 6), (⟨"WinderLadders$Pad", "take", "(C)Z"⟩, 5), (⟨"WinderLadders$Pad", "here", "()C"⟩, 5), (⟨"WinderLadders$Pad", "readNumber", "(I)Z"⟩, 5), (⟨"WinderLadders$Pad", "readValue", "()Z"⟩, 5), (⟨"WinderLadders$Pad", "readNumbers", "()Z"⟩, 5), (⟨"WinderLadders", "carryOrdersOut", "()I"⟩, 6), (⟨"WinderLadders", "carryOneOut", "()I"⟩, 6), (⟨"WinderLaddersModel", "know", "()V"⟩, 17), (⟨"WinderLaddersModel", "hangFault", "(III)I"⟩, 17), (⟨"WinderLaddersModel", "hangs", "(III)I"⟩, 17), (⟨"WinderLaddersModel", "ladderFault", "(I)I"⟩, 17), (⟨"WinderLaddersModel", "buys", "(I)I"⟩, 17), (⟨"WinderLaddersModel", "isClock", "(I)Z"⟩, 17)]
theorem lw_r1 : ∀ q ∈ lw_privs_1, lw_okq q := List.forall_mem_cons.mpr ⟨lw_p0, List.forall_mem_cons.mpr ⟨lw_p1, List.forall_mem_cons.mpr ⟨lw_p2, List.forall_mem_cons.mpr ⟨lw_p3, List.forall_mem_cons.mpr ⟨lw_p4, List.forall_mem_cons.mpr ⟨lw_p5, List.forall_mem_cons.mpr ⟨lw_p6, List.forall_mem_cons.mpr ⟨lw_p7, List.forall_mem_cons.mpr ⟨lw_p8, List.forall_mem_cons.mpr ⟨lw_p9, List.forall_mem_cons.mpr ⟨lw_p10, List.forall_mem_cons.mpr ⟨lw_p11, List.forall_mem_cons.mpr ⟨lw_p12, List.forall_mem_cons.mpr ⟨lw_p13, List.forall_mem_cons.mpr ⟨lw_p14, List.forall_mem_cons.mpr ⟨lw_p15, fun _ h => absurd h List.not_mem_nil⟩⟩⟩⟩⟩⟩⟩⟩⟩⟩⟩⟩⟩⟩⟩⟩
theorem lw_p16 : lw_okq (⟨"WinderLaddersModel", "layOut", "(IZ)I"⟩, 17) := ⟨⟨by decide +kernel, by decide +kernel⟩, List.mem_of_getElem? (i := 511) (by decide +kernel), List.mem_of_getElem? (i := 619) (by decide +kernel), List.mem_of_getElem? (i := 620) (by decide +kernel)⟩
theorem lw_p17 : lw_okq (⟨"WinderLaddersModel", "goes", "()I"⟩, 17) := ⟨⟨by decide +kernel, by decide +kernel⟩, List.mem_of_getElem? (i := 511) (by decide +kernel), List.mem_of_getElem? (i := 623) (by decide +kernel), List.mem_of_getElem? (i := 624) (by decide +kernel)⟩
theorem lw_p18 : lw_okq (⟨"WinderLaddersModel", "minutes", "()I"⟩, 17) := ⟨⟨by decide +kernel, by decide +kernel⟩, List.mem_of_getElem? (i := 511) (by decide +kernel), List.mem_of_getElem? (i := 627) (by decide +kernel), List.mem_of_getElem? (i := 628) (by decide +kernel)⟩
theorem lw_p19 : lw_okq (⟨"WinderLaddersModel", "ladderOf", "(I)I"⟩, 17) := ⟨⟨by decide +kernel, by decide +kernel⟩, List.mem_of_getElem? (i := 511) (by decide +kernel), List.mem_of_getElem? (i := 631) (by decide +kernel), List.mem_of_getElem? (i := 632) (by decide +kernel)⟩
theorem lw_p20 : lw_okq (⟨"WinderLaddersModel", "way", "(II)I"⟩, 17) := ⟨⟨by decide +kernel, by decide +kernel⟩, List.mem_of_getElem? (i := 511) (by decide +kernel), List.mem_of_getElem? (i := 635) (by decide +kernel), List.mem_of_getElem? (i := 636) (by decide +kernel)⟩
theorem lw_p21 : lw_okq (⟨"WinderLaddersModel", "canWind", "(I)Z"⟩, 17) := ⟨⟨by decide +kernel, by decide +kernel⟩, List.mem_of_getElem? (i := 511) (by decide +kernel), List.mem_of_getElem? (i := 642) (by decide +kernel), List.mem_of_getElem? (i := 643) (by decide +kernel)⟩
theorem lw_p22 : lw_okq (⟨"WinderLaddersModel", "work", "(I)V"⟩, 17) := ⟨⟨by decide +kernel, by decide +kernel⟩, List.mem_of_getElem? (i := 511) (by decide +kernel), List.mem_of_getElem? (i := 646) (by decide +kernel), List.mem_of_getElem? (i := 647) (by decide +kernel)⟩
theorem lw_p23 : lw_okq (⟨"WinderLaddersModel", "rate", "(I)I"⟩, 17) := ⟨⟨by decide +kernel, by decide +kernel⟩, List.mem_of_getElem? (i := 511) (by decide +kernel), List.mem_of_getElem? (i := 650) (by decide +kernel), List.mem_of_getElem? (i := 651) (by decide +kernel)⟩
theorem lw_p24 : lw_okq (⟨"WinderLaddersModel", "passFault", "(I)I"⟩, 17) := ⟨⟨by decide +kernel, by decide +kernel⟩, List.mem_of_getElem? (i := 511) (by decide +kernel), List.mem_of_getElem? (i := 658) (by decide +kernel), List.mem_of_getElem? (i := 659) (by decide +kernel)⟩
theorem lw_p25 : lw_okq (⟨"WinderLaddersModel", "passes", "(I)I"⟩, 17) := ⟨⟨by decide +kernel, by decide +kernel⟩, List.mem_of_getElem? (i := 511) (by decide +kernel), List.mem_of_getElem? (i := 662) (by decide +kernel), List.mem_of_getElem? (i := 663) (by decide +kernel)⟩
theorem lw_p26 : lw_okq (⟨"WinderLaddersModel", "day", "(I)V"⟩, 17) := ⟨⟨by decide +kernel, by decide +kernel⟩, List.mem_of_getElem? (i := 511) (by decide +kernel), List.mem_of_getElem? (i := 666) (by decide +kernel), List.mem_of_getElem? (i := 667) (by decide +kernel)⟩
theorem lw_p27 : lw_okq (⟨"WinderLaddersModel", "still", "()I"⟩, 17) := ⟨⟨by decide +kernel, by decide +kernel⟩, List.mem_of_getElem? (i := 511) (by decide +kernel), List.mem_of_getElem? (i := 671) (by decide +kernel), List.mem_of_getElem? (i := 672) (by decide +kernel)⟩
theorem lw_p28 : lw_okq (⟨"WinderLaddersModel", "changes", "(I)I"⟩, 17) := ⟨⟨by decide +kernel, by decide +kernel⟩, List.mem_of_getElem? (i := 511) (by decide +kernel), List.mem_of_getElem? (i := 682) (by decide +kernel), List.mem_of_getElem? (i := 683) (by decide +kernel)⟩
theorem lw_p29 : lw_okq (⟨"WinderLaddersModel", "isOff", "(I)Z"⟩, 17) := ⟨⟨by decide +kernel, by decide +kernel⟩, List.mem_of_getElem? (i := 511) (by decide +kernel), List.mem_of_getElem? (i := 691) (by decide +kernel), List.mem_of_getElem? (i := 692) (by decide +kernel)⟩
theorem lw_p30 : lw_okq (⟨"WinderLaddersModel", "sum", "(I)I"⟩, 17) := ⟨⟨by decide +kernel, by decide +kernel⟩, List.mem_of_getElem? (i := 511) (by decide +kernel), List.mem_of_getElem? (i := 703) (by decide +kernel), List.mem_of_getElem? (i := 704) (by decide +kernel)⟩
theorem lw_p31 : lw_okq (⟨"WinderLaddersModel", "keepClock", "(I)V"⟩, 17) := ⟨⟨by decide +kernel, by decide +kernel⟩, List.mem_of_getElem? (i := 511) (by decide +kernel), List.mem_of_getElem? (i := 715) (by decide +kernel), List.mem_of_getElem? (i := 716) (by decide +kernel)⟩
def lw_privs_2 : List (MethodName × Nat) := [(⟨"WinderLaddersModel", "layOut", "(IZ)I"⟩, 17), (⟨"WinderLaddersModel", "goes", "()I"⟩, 17), (⟨"WinderLaddersModel", "minutes", "()I"⟩, 17), (⟨"WinderLaddersModel", "ladderOf", "(I)I"⟩, 17), (⟨"WinderLaddersModel", "way", "(II)I"⟩, 17), (⟨"WinderLaddersModel", "canWind", "(I)Z"⟩, 17), (⟨"WinderLaddersModel", "work", "(I)V"⟩, 17), (⟨"WinderLaddersModel", "rate", "(I)I"⟩, 17), (⟨"WinderLaddersModel", "passFault", "(I)I"⟩, 17), (⟨"WinderLaddersModel", "passes", "(I)I"⟩, 17), (⟨"WinderLaddersModel", "day", "(I)V"⟩, 17), (⟨"WinderLaddersModel", "still", "()I"⟩, 17), (⟨"WinderLaddersModel", "changes", "(I)I"⟩, 17), (⟨"WinderLaddersModel", "isOff", "(I)Z"⟩, 17), (⟨"WinderLaddersModel", "sum", "(I)I"⟩, 17), (⟨"WinderLaddersModel", "keepClock", "(I)V"⟩, 17)]
theorem lw_r2 : ∀ q ∈ lw_privs_2, lw_okq q := List.forall_mem_cons.mpr ⟨lw_p16, List.forall_mem_cons.mpr ⟨lw_p17, List.forall_mem_cons.mpr ⟨lw_p18, List.forall_mem_cons.mpr ⟨lw_p19, List.forall_mem_cons.mpr ⟨lw_p20, List.forall_mem_cons.mpr ⟨lw_p21, List.forall_mem_cons.mpr ⟨lw_p22, List.forall_mem_cons.mpr ⟨lw_p23, List.forall_mem_cons.mpr ⟨lw_p24, List.forall_mem_cons.mpr ⟨lw_p25, List.forall_mem_cons.mpr ⟨lw_p26, List.forall_mem_cons.mpr ⟨lw_p27, List.forall_mem_cons.mpr ⟨lw_p28, List.forall_mem_cons.mpr ⟨lw_p29, List.forall_mem_cons.mpr ⟨lw_p30, List.forall_mem_cons.mpr ⟨lw_p31, fun _ h => absurd h List.not_mem_nil⟩⟩⟩⟩⟩⟩⟩⟩⟩⟩⟩⟩⟩⟩⟩⟩
theorem lw_p32 : lw_okq (⟨"WinderLaddersModel", "go", "(Z)I"⟩, 17) := ⟨⟨by decide +kernel, by decide +kernel⟩, List.mem_of_getElem? (i := 511) (by decide +kernel), List.mem_of_getElem? (i := 745) (by decide +kernel), List.mem_of_getElem? (i := 746) (by decide +kernel)⟩
theorem lw_p33 : lw_okq (⟨"WinderLaddersModel", "order", "()V"⟩, 17) := ⟨⟨by decide +kernel, by decide +kernel⟩, List.mem_of_getElem? (i := 511) (by decide +kernel), List.mem_of_getElem? (i := 749) (by decide +kernel), List.mem_of_getElem? (i := 750) (by decide +kernel)⟩
theorem lw_p34 : lw_okq (⟨"WinderLaddersModel", "number", "()I"⟩, 17) := ⟨⟨by decide +kernel, by decide +kernel⟩, List.mem_of_getElem? (i := 511) (by decide +kernel), List.mem_of_getElem? (i := 753) (by decide +kernel), List.mem_of_getElem? (i := 754) (by decide +kernel)⟩
theorem lw_p35 : lw_okq (⟨"WinderLaddersModel", "sign", "(II)I"⟩, 17) := ⟨⟨by decide +kernel, by decide +kernel⟩, List.mem_of_getElem? (i := 511) (by decide +kernel), List.mem_of_getElem? (i := 757) (by decide +kernel), List.mem_of_getElem? (i := 758) (by decide +kernel)⟩
theorem lw_p36 : lw_okq (⟨"WinderLaddersModel", "isNext", "(II)Z"⟩, 17) := ⟨⟨by decide +kernel, by decide +kernel⟩, List.mem_of_getElem? (i := 511) (by decide +kernel), List.mem_of_getElem? (i := 761) (by decide +kernel), List.mem_of_getElem? (i := 762) (by decide +kernel)⟩
theorem lw_p37 : lw_okq (⟨"WinderLaddersModel", "does", "()Z"⟩, 17) := ⟨⟨by decide +kernel, by decide +kernel⟩, List.mem_of_getElem? (i := 511) (by decide +kernel), List.mem_of_getElem? (i := 765) (by decide +kernel), List.mem_of_getElem? (i := 766) (by decide +kernel)⟩
theorem lw_p38 : lw_okq (⟨"WinderLaddersModel", "rowFault", "()I"⟩, 17) := ⟨⟨by decide +kernel, by decide +kernel⟩, List.mem_of_getElem? (i := 511) (by decide +kernel), List.mem_of_getElem? (i := 769) (by decide +kernel), List.mem_of_getElem? (i := 770) (by decide +kernel)⟩
def lw_privs_3 : List (MethodName × Nat) := [(⟨"WinderLaddersModel", "go", "(Z)I"⟩, 17), (⟨"WinderLaddersModel", "order", "()V"⟩, 17), (⟨"WinderLaddersModel", "number", "()I"⟩, 17), (⟨"WinderLaddersModel", "sign", "(II)I"⟩, 17), (⟨"WinderLaddersModel", "isNext", "(II)Z"⟩, 17), (⟨"WinderLaddersModel", "does", "()Z"⟩, 17), (⟨"WinderLaddersModel", "rowFault", "()I"⟩, 17)]
theorem lw_r3 : ∀ q ∈ lw_privs_3, lw_okq q := List.forall_mem_cons.mpr ⟨lw_p32, List.forall_mem_cons.mpr ⟨lw_p33, List.forall_mem_cons.mpr ⟨lw_p34, List.forall_mem_cons.mpr ⟨lw_p35, List.forall_mem_cons.mpr ⟨lw_p36, List.forall_mem_cons.mpr ⟨lw_p37, List.forall_mem_cons.mpr ⟨lw_p38, fun _ h => absurd h List.not_mem_nil⟩⟩⟩⟩⟩⟩⟩
def lw_privs : List (MethodName × Nat) := lw_privs_1 ++ (lw_privs_2 ++ (lw_privs_3))
def lw_tbl : List Cond := k2_sels lw_privs ++ tables_1
theorem lw_privs_ok : ∀ q ∈ lw_privs, lw_okq q := by
  show ∀ q ∈ lw_privs_1 ++ (lw_privs_2 ++ (lw_privs_3)), lw_okq q
  exact List.forall_mem_append.mpr ⟨lw_r1, List.forall_mem_append.mpr ⟨lw_r2, lw_r3⟩⟩
-- ===== end of PART A; then your names; then what follows =====
end
section
/-! ===== BEGIN words of one list among another's, by their places ===== -/
theorem goodIn_r {big : List Cond} (ws : List Cond) (ps : List Nat) (hp : ws = ps.filterMap (fun i => big[i]?)) (h : ws.all goodWord = true) : GoodIn big ws := by
  intro w hw
  have h1 := List.all_eq_true.mp h w hw
  rw [hp] at hw
  obtain ⟨i, -, hi⟩ := List.mem_filterMap.mp hw
  have hm : w ∈ big := by first | exact List.mem_of_getElem? hi | exact List.getElem?_mem hi
  exact ⟨hm, good_of_word h1⟩
theorem goodIn_app {big a b : List Cond} (ha : GoodIn big a) (hb : GoodIn big b) : GoodIn big (a ++ b) := fun w h => (List.mem_append.mp h).elim (ha w) (hb w)
theorem goodIn_ca {big a b : List Cond} {c : Cond} (ha : GoodIn big (c :: a)) (hb : GoodIn big b) : GoodIn big (c :: (a ++ b)) := fun w h => (List.mem_cons.mp h).elim (fun e => ha w (List.mem_cons.mpr (Or.inl e))) (fun h => (List.mem_append.mp h).elim (fun h => ha w (List.mem_cons.mpr (Or.inr h))) (hb w))
theorem goodIn_sub {big ws : List Cond} (hm : ∀ w ∈ ws, w ∈ big) (h : ws.all goodWord = true) : GoodIn big ws := fun w hw => ⟨hm w hw, good_of_word (List.all_eq_true.mp h w hw)⟩
/-! ===== END ===== -/

/-! ===== BEGIN printed: names, fields, word lists, decode rows ===== -/
def RX0 : String := "WinderLadders$Clock"
def TX0 : u_T := fun k => match k with
  | 0 => ("WinderLadders$Clock", "house", "I", false)
  | 1 => ("WinderLadders$Clock", "rungs", "I", false)
  | 2 => ("WinderLadders$Clock", "drift", "I", false)
  | 3 => ("WinderLadders$Clock", "screw", "I", false)
  | 4 => ("WinderLadders$Clock", "off", "I", false)
  | 5 => ("WinderLadders$Clock", "daysSinceWound", "I", false)
  | 6 => ("WinderLadders$Clock", "timesWound", "I", false)
  | _ => ("WinderLadders$Clock", "goes", "Z", false)
def tyX0 : Nat → FieldType := fun k => match k with
  | 0 => .int
  | 1 => .int
  | 2 => .int
  | 3 => .int
  | 4 => .int
  | 5 => .int
  | 6 => .int
  | _ => .boolean
abbrev wsX00 : List Cond := u_ws RX0 TX0 8
theorem nmX0 : ∀ a, a < 8 → ∀ b, b < 8 → a ≠ b → (TX0 a).2.1 ≠ (TX0 b).2.1 := by decide +kernel
theorem tyX0_ok : ∀ k, k < 8 → parseFieldDescriptor (TX0 k).2.2.1 = some (tyX0 k) := by decide +kernel
abbrev cX0_init : ByteArray := prog_2_method_1_code
def yX0_init : MethodName := ⟨RX0, "<init>", "()V"⟩
abbrev cX0_copyFrom : ByteArray := prog_2_method_2_code
def yX0_copyFrom : MethodName := ⟨RX0, "copyFrom", "(LWinderLadders$Clock;)V"⟩
abbrev cX0_begin : ByteArray := prog_2_method_3_code
def yX0_begin : MethodName := ⟨RX0, "begin", "(III)V"⟩
abbrev cX0_driftWithScrew : ByteArray := prog_2_method_4_code
def yX0_driftWithScrew : MethodName := ⟨RX0, "driftWithScrew", "()I"⟩
abbrev cX0_isOffBeyond : ByteArray := prog_2_method_5_code
def yX0_isOffBeyond : MethodName := ⟨RX0, "isOffBeyond", "(I)Z"⟩
abbrev cX0_passDay : ByteArray := prog_2_method_6_code
def yX0_passDay : MethodName := ⟨RX0, "passDay", "(I)V"⟩
abbrev cX0_windAndSet : ByteArray := prog_2_method_7_code
def yX0_windAndSet : MethodName := ⟨RX0, "windAndSet", "(I)V"⟩
abbrev cX0_turnByRule : ByteArray := prog_2_method_8_code
def yX0_turnByRule : MethodName := ⟨RX0, "turnByRule", "()V"⟩
abbrev cX0_daysUntilOff : ByteArray := prog_2_method_9_code
def yX0_daysUntilOff : MethodName := ⟨RX0, "daysUntilOff", "(II)I"⟩
def RX1 : String := "WinderLadders$History"
def TX1 : u_T := fun k => match k with
  | 0 => ("WinderLadders$History", "states", "[LWinderLadders$State;", true)
  | _ => ("WinderLadders$History", "depth", "I", false)
def tyX1 : Nat → FieldType := fun k => match k with
  | 0 => .array (.object "WinderLadders$State")
  | _ => .int
abbrev wsX10 : List Cond := u_ws RX1 TX1 2
theorem nmX1 : ∀ a, a < 2 → ∀ b, b < 2 → a ≠ b → (TX1 a).2.1 ≠ (TX1 b).2.1 := by decide +kernel
theorem tyX1_ok : ∀ k, k < 2 → parseFieldDescriptor (TX1 k).2.2.1 = some (tyX1 k) := by decide +kernel
abbrev cX1_init : ByteArray := prog_3_method_1_code
def yX1_init : MethodName := ⟨RX1, "<init>", "()V"⟩
abbrev cX1_prepare : ByteArray := prog_3_method_2_code
def yX1_prepare : MethodName := ⟨RX1, "prepare", "(LWinderLadders$State;)V"⟩
abbrev cX1_keepPrepared : ByteArray := prog_3_method_3_code
def yX1_keepPrepared : MethodName := ⟨RX1, "keepPrepared", "()V"⟩
abbrev cX1_dropOldest : ByteArray := prog_3_method_4_code
def yX1_dropOldest : MethodName := ⟨RX1, "dropOldest", "()V"⟩
abbrev cX1_takeBack : ByteArray := prog_3_method_5_code
def yX1_takeBack : MethodName := ⟨RX1, "takeBack", "(LWinderLadders$State;)Z"⟩
def RX2 : String := "WinderLadders$Pad"
def TX2 : u_T := fun k => match k with
  | 0 => ("WinderLadders$Pad", "signs", "[C", true)
  | 1 => ("WinderLadders$Pad", "numbers", "LWinderLadders$Row;", true)
  | 2 => ("WinderLadders$Pad", "length", "I", false)
  | 3 => ("WinderLadders$Pad", "place", "I", false)
  | _ => ("WinderLadders$Pad", "kind", "I", false)
def tyX2 : Nat → FieldType := fun k => match k with
  | 0 => .array .char
  | 1 => .object "WinderLadders$Row"
  | 2 => .int
  | 3 => .int
  | _ => .int
abbrev wsX20 : List Cond := u_ws RX2 TX2 5
theorem nmX2 : ∀ a, a < 5 → ∀ b, b < 5 → a ≠ b → (TX2 a).2.1 ≠ (TX2 b).2.1 := by decide +kernel
theorem tyX2_ok : ∀ k, k < 5 → parseFieldDescriptor (TX2 k).2.2.1 = some (tyX2 k) := by decide +kernel
abbrev cX2_init : ByteArray := prog_4_method_1_code
def yX2_init : MethodName := ⟨RX2, "<init>", "()V"⟩
abbrev cX2_append : ByteArray := prog_4_method_2_code
def yX2_append : MethodName := ⟨RX2, "append", "(C)V"⟩
abbrev cX2_findFault : ByteArray := prog_4_method_3_code
def yX2_findFault : MethodName := ⟨RX2, "findFault", "()I"⟩
abbrev cX2_goToStart : ByteArray := prog_4_method_4_code
def yX2_goToStart : MethodName := ⟨RX2, "goToStart", "()V"⟩
abbrev cX2_readNext : ByteArray := prog_4_method_5_code
def yX2_readNext : MethodName := ⟨RX2, "readNext", "()Z"⟩
abbrev cX2_readNumbers : ByteArray := prog_4_method_6_code
def yX2_readNumbers : MethodName := ⟨RX2, "readNumbers", "()Z"⟩
abbrev cX2_readValue : ByteArray := prog_4_method_7_code
def yX2_readValue : MethodName := ⟨RX2, "readValue", "()Z"⟩
abbrev cX2_readNumber : ByteArray := prog_4_method_8_code
def yX2_readNumber : MethodName := ⟨RX2, "readNumber", "(I)Z"⟩
abbrev cX2_take : ByteArray := prog_4_method_9_code
def yX2_take : MethodName := ⟨RX2, "take", "(C)Z"⟩
abbrev cX2_here : ByteArray := prog_4_method_10_code
def yX2_here : MethodName := ⟨RX2, "here", "()C"⟩
abbrev cX2_isDigit : ByteArray := prog_4_method_11_code
def yX2_isDigit : MethodName := ⟨RX2, "isDigit", "(C)Z"⟩
def RX3 : String := "WinderLadders$Row"
def TX3 : u_T := fun k => match k with
  | 0 => ("WinderLadders$Row", "numbers", "[I", true)
  | _ => ("WinderLadders$Row", "length", "I", false)
def tyX3 : Nat → FieldType := fun k => match k with
  | 0 => .array .int
  | _ => .int
abbrev wsX30 : List Cond := u_ws RX3 TX3 2
theorem nmX3 : ∀ a, a < 2 → ∀ b, b < 2 → a ≠ b → (TX3 a).2.1 ≠ (TX3 b).2.1 := by decide +kernel
theorem tyX3_ok : ∀ k, k < 2 → parseFieldDescriptor (TX3 k).2.2.1 = some (tyX3 k) := by decide +kernel
abbrev cX3_init : ByteArray := prog_5_method_1_code
def yX3_init : MethodName := ⟨RX3, "<init>", "()V"⟩
abbrev cX3_clear : ByteArray := prog_5_method_2_code
def yX3_clear : MethodName := ⟨RX3, "clear", "()V"⟩
abbrev cX3_add : ByteArray := prog_5_method_3_code
def yX3_add : MethodName := ⟨RX3, "add", "(I)Z"⟩
abbrev cX3_at : ByteArray := prog_5_method_4_code
def yX3_at : MethodName := ⟨RX3, "at", "(I)I"⟩
abbrev cX3_turnRound : ByteArray := prog_5_method_5_code
def yX3_turnRound : MethodName := ⟨RX3, "turnRound", "()V"⟩
def RX4 : String := "WinderLadders$State"
def TX4 : u_T := fun k => match k with
  | 0 => ("WinderLadders$State", "settings", "[I", true)
  | 1 => ("WinderLadders$State", "clocks", "[LWinderLadders$Clock;", true)
  | 2 => ("WinderLadders$State", "ladders", "[I", true)
  | 3 => ("WinderLadders$State", "clockCount", "I", false)
  | 4 => ("WinderLadders$State", "ladderCount", "I", false)
  | 5 => ("WinderLadders$State", "days", "I", false)
  | _ => ("WinderLadders$State", "minutes", "I", false)
def tyX4 : Nat → FieldType := fun k => match k with
  | 0 => .array .int
  | 1 => .array (.object "WinderLadders$Clock")
  | 2 => .array .int
  | 3 => .int
  | 4 => .int
  | 5 => .int
  | _ => .int
abbrev wsX40 : List Cond := u_ws RX4 TX4 7
theorem nmX4 : ∀ a, a < 7 → ∀ b, b < 7 → a ≠ b → (TX4 a).2.1 ≠ (TX4 b).2.1 := by decide +kernel
theorem tyX4_ok : ∀ k, k < 7 → parseFieldDescriptor (TX4 k).2.2.1 = some (tyX4 k) := by decide +kernel
abbrev cX4_init : ByteArray := prog_6_method_1_code
def yX4_init : MethodName := ⟨RX4, "<init>", "()V"⟩
abbrev cX4_copyFrom : ByteArray := prog_6_method_2_code
def yX4_copyFrom : MethodName := ⟨RX4, "copyFrom", "(LWinderLadders$State;)V"⟩
abbrev cX4_hasClock : ByteArray := prog_6_method_3_code
def yX4_hasClock : MethodName := ⟨RX4, "hasClock", "(I)Z"⟩
abbrev cX4_hasLadder : ByteArray := prog_6_method_4_code
def yX4_hasLadder : MethodName := ⟨RX4, "hasLadder", "(I)Z"⟩
abbrev cX4_replaceSetting : ByteArray := prog_6_method_5_code
def yX4_replaceSetting : MethodName := ⟨RX4, "replaceSetting", "(II)I"⟩
abbrev cX4_addClock : ByteArray := prog_6_method_6_code
def yX4_addClock : MethodName := ⟨RX4, "addClock", "(III)I"⟩
abbrev cX4_addLadder : ByteArray := prog_6_method_7_code
def yX4_addLadder : MethodName := ⟨RX4, "addLadder", "(I)I"⟩
abbrev cX4_turnScrew : ByteArray := prog_6_method_8_code
def yX4_turnScrew : MethodName := ⟨RX4, "turnScrew", "(II)I"⟩
abbrev cX4_passDays : ByteArray := prog_6_method_9_code
def yX4_passDays : MethodName := ⟨RX4, "passDays", "(I)I"⟩
abbrev cX4_changeClocks : ByteArray := prog_6_method_10_code
def yX4_changeClocks : MethodName := ⟨RX4, "changeClocks", "(I)I"⟩
abbrev cX4_walkBeat : ByteArray := prog_6_method_11_code
def yX4_walkBeat : MethodName := ⟨RX4, "walkBeat", "(LWinderLadders$Row;)I"⟩
abbrev cX4_minutesOf : ByteArray := prog_6_method_12_code
def yX4_minutesOf : MethodName := ⟨RX4, "minutesOf", "(LWinderLadders$Row;)I"⟩
abbrev cX4_ladderNeeded : ByteArray := prog_6_method_13_code
def yX4_ladderNeeded : MethodName := ⟨RX4, "ladderNeeded", "(LWinderLadders$Clock;)I"⟩
abbrev cX4_canBeWound : ByteArray := prog_6_method_14_code
def yX4_canBeWound : MethodName := ⟨RX4, "canBeWound", "(LWinderLadders$Clock;)Z"⟩
abbrev cX4_numberThatGo : ByteArray := prog_6_method_15_code
def yX4_numberThatGo : MethodName := ⟨RX4, "numberThatGo", "()I"⟩
abbrev cX4_setOfStill : ByteArray := prog_6_method_16_code
def yX4_setOfStill : MethodName := ⟨RX4, "setOfStill", "()I"⟩
abbrev cX4_numberOffBeyondTold : ByteArray := prog_6_method_17_code
def yX4_numberOffBeyondTold : MethodName := ⟨RX4, "numberOffBeyondTold", "()I"⟩
abbrev cX4_numberThatCannotBeWound : ByteArray := prog_6_method_18_code
def yX4_numberThatCannotBeWound : MethodName := ⟨RX4, "numberThatCannotBeWound", "()I"⟩
abbrev cX4_timesWoundInAll : ByteArray := prog_6_method_19_code
def yX4_timesWoundInAll : MethodName := ⟨RX4, "timesWoundInAll", "()I"⟩
abbrev cX4_rungsOutOfReach : ByteArray := prog_6_method_20_code
def yX4_rungsOutOfReach : MethodName := ⟨RX4, "rungsOutOfReach", "()I"⟩
abbrev cX4_daysUntilOff : ByteArray := prog_6_method_21_code
def yX4_daysUntilOff : MethodName := ⟨RX4, "daysUntilOff", "(I)I"⟩
abbrev cX4_rankOf : ByteArray := prog_6_method_22_code
def yX4_rankOf : MethodName := ⟨RX4, "rankOf", "(I)I"⟩
def RX5 : String := "WinderLadders"
def TX5 : u_T := fun k => match k with
  | 0 => ("WinderLadders", "now", "LWinderLadders$State;", true)
  | 1 => ("WinderLadders", "history", "LWinderLadders$History;", true)
  | 2 => ("WinderLadders", "slots", "[LWinderLadders$State;", true)
  | 3 => ("WinderLadders", "slotHolds", "[Z", true)
  | 4 => ("WinderLadders", "pad", "LWinderLadders$Pad;", true)
  | _ => ("WinderLadders", "row", "LWinderLadders$Row;", true)
def tyX5 : Nat → FieldType := fun k => match k with
  | 0 => .object "WinderLadders$State"
  | 1 => .object "WinderLadders$History"
  | 2 => .array (.object "WinderLadders$State")
  | 3 => .array .boolean
  | 4 => .object "WinderLadders$Pad"
  | _ => .object "WinderLadders$Row"
abbrev wsX50 : List Cond := u_ws RX5 TX5 6
theorem nmX5 : ∀ a, a < 6 → ∀ b, b < 6 → a ≠ b → (TX5 a).2.1 ≠ (TX5 b).2.1 := by decide +kernel
theorem tyX5_ok : ∀ k, k < 6 → parseFieldDescriptor (TX5 k).2.2.1 = some (tyX5 k) := by decide +kernel
abbrev cX5_init : ByteArray := prog_1_method_1_code
def yX5_init : MethodName := ⟨RX5, "<init>", "()V"⟩
abbrev cX5_set : ByteArray := prog_1_method_2_code
def yX5_set : MethodName := ⟨RX5, "set", "(II)I"⟩
abbrev cX5_hang : ByteArray := prog_1_method_3_code
def yX5_hang : MethodName := ⟨RX5, "hang", "(III)I"⟩
abbrev cX5_ladder : ByteArray := prog_1_method_4_code
def yX5_ladder : MethodName := ⟨RX5, "ladder", "(I)I"⟩
abbrev cX5_screw : ByteArray := prog_1_method_5_code
def yX5_screw : MethodName := ⟨RX5, "screw", "(II)I"⟩
abbrev cX5_round : ByteArray := prog_1_method_6_code
def yX5_round : MethodName := ⟨RX5, "round", "(I)I"⟩
abbrev cX5_pass : ByteArray := prog_1_method_7_code
def yX5_pass : MethodName := ⟨RX5, "pass", "(I)I"⟩
abbrev cX5_change : ByteArray := prog_1_method_8_code
def yX5_change : MethodName := ⟨RX5, "change", "(I)I"⟩
abbrev cX5_of : ByteArray := prog_1_method_9_code
def yX5_of : MethodName := ⟨RX5, "of", "(II)I"⟩
abbrev cX5_ofLadder : ByteArray := prog_1_method_10_code
def yX5_ofLadder : MethodName := ⟨RX5, "ofLadder", "(I)I"⟩
abbrev cX5_count : ByteArray := prog_1_method_11_code
def yX5_count : MethodName := ⟨RX5, "count", "(I)I"⟩
abbrev cX5_takes : ByteArray := prog_1_method_12_code
def yX5_takes : MethodName := ⟨RX5, "takes", "(I)I"⟩
abbrev cX5_lasts : ByteArray := prog_1_method_13_code
def yX5_lasts : MethodName := ⟨RX5, "lasts", "(I)I"⟩
abbrev cX5_needs : ByteArray := prog_1_method_14_code
def yX5_needs : MethodName := ⟨RX5, "needs", "(I)I"⟩
abbrev cX5_ladderFor : ByteArray := prog_1_method_15_code
def yX5_ladderFor : MethodName := ⟨RX5, "ladderFor", "()I"⟩
abbrev cX5_wayRound : ByteArray := prog_1_method_16_code
def yX5_wayRound : MethodName := ⟨RX5, "wayRound", "(I)I"⟩
abbrev cX5_put : ByteArray := prog_1_method_17_code
def yX5_put : MethodName := ⟨RX5, "put", "(J)I"⟩
abbrev cX5_wipe : ByteArray := prog_1_method_18_code
def yX5_wipe : MethodName := ⟨RX5, "wipe", "()I"⟩
abbrev cX5_fault : ByteArray := prog_1_method_19_code
def yX5_fault : MethodName := ⟨RX5, "fault", "()I"⟩
abbrev cX5_carryOut : ByteArray := prog_1_method_20_code
def yX5_carryOut : MethodName := ⟨RX5, "carryOut", "()I"⟩
abbrev cX5_undo : ByteArray := prog_1_method_21_code
def yX5_undo : MethodName := ⟨RX5, "undo", "()I"⟩
abbrev cX5_save : ByteArray := prog_1_method_22_code
def yX5_save : MethodName := ⟨RX5, "save", "(I)I"⟩
abbrev cX5_restore : ByteArray := prog_1_method_23_code
def yX5_restore : MethodName := ⟨RX5, "restore", "(I)I"⟩
abbrev cX5_keptIfDone : ByteArray := prog_1_method_24_code
def yX5_keptIfDone : MethodName := ⟨RX5, "keptIfDone", "(I)I"⟩
abbrev cX5_chooseRow : ByteArray := prog_1_method_25_code
def yX5_chooseRow : MethodName := ⟨RX5, "chooseRow", "(I)I"⟩
abbrev cX5_carryOrdersOut : ByteArray := prog_1_method_26_code
def yX5_carryOrdersOut : MethodName := ⟨RX5, "carryOrdersOut", "()I"⟩
abbrev cX5_carryOneOut : ByteArray := prog_1_method_27_code
def yX5_carryOneOut : MethodName := ⟨RX5, "carryOneOut", "()I"⟩
abbrev cX5_signsIn : ByteArray := prog_1_method_28_code
def yX5_signsIn : MethodName := ⟨RX5, "signsIn", "(J)I"⟩
abbrev cX5_codeAt : ByteArray := prog_1_method_29_code
def yX5_codeAt : MethodName := ⟨RX5, "codeAt", "(JI)I"⟩
abbrev cX5_isWithin : ByteArray := prog_1_method_30_code
def yX5_isWithin : MethodName := ⟨RX5, "isWithin", "(III)Z"⟩
def RX6 : String := "WinderLaddersModel"
def TX6 : u_T := fun k => match k with
  | 0 => ("WinderLaddersModel", "s", "[I", true)
  | 1 => ("WinderLaddersModel", "aside", "[I", true)
  | 2 => ("WinderLaddersModel", "before", "[I", true)
  | 3 => ("WinderLaddersModel", "known", "I", false)
  | 4 => ("WinderLaddersModel", "slots", "[I", true)
  | 5 => ("WinderLaddersModel", "isSaved", "[Z", true)
  | 6 => ("WinderLaddersModel", "pad", "[I", true)
  | 7 => ("WinderLaddersModel", "length", "I", false)
  | 8 => ("WinderLaddersModel", "row", "[I", true)
  | 9 => ("WinderLaddersModel", "inRow", "I", false)
  | 10 => ("WinderLaddersModel", "last", "[I", true)
  | 11 => ("WinderLaddersModel", "place", "I", false)
  | 12 => ("WinderLaddersModel", "isWrong", "Z", false)
  | 13 => ("WinderLaddersModel", "letter", "I", false)
  | 14 => ("WinderLaddersModel", "one", "I", false)
  | 15 => ("WinderLaddersModel", "two", "I", false)
  | _ => ("WinderLaddersModel", "three", "I", false)
def tyX6 : Nat → FieldType := fun k => match k with
  | 0 => .array .int
  | 1 => .array .int
  | 2 => .array .int
  | 3 => .int
  | 4 => .array .int
  | 5 => .array .boolean
  | 6 => .array .int
  | 7 => .int
  | 8 => .array .int
  | 9 => .int
  | 10 => .array .int
  | 11 => .int
  | 12 => .boolean
  | 13 => .int
  | 14 => .int
  | 15 => .int
  | _ => .int
abbrev wsX60 : List Cond := u_ws RX6 TX6 17
theorem nmX6 : ∀ a, a < 17 → ∀ b, b < 17 → a ≠ b → (TX6 a).2.1 ≠ (TX6 b).2.1 := by decide +kernel
theorem tyX6_ok : ∀ k, k < 17 → parseFieldDescriptor (TX6 k).2.2.1 = some (tyX6 k) := by decide +kernel
abbrev cX6_init : ByteArray := prog_8_method_1_code
def yX6_init : MethodName := ⟨RX6, "<init>", "()V"⟩
abbrev cX6_in : ByteArray := prog_8_method_3_code
def yX6_in : MethodName := ⟨RX6, "in", "(III)Z"⟩
abbrev cX6_size : ByteArray := prog_8_method_4_code
def yX6_size : MethodName := ⟨RX6, "size", "(I)I"⟩
abbrev cX6_at : ByteArray := prog_8_method_5_code
def yX6_at : MethodName := ⟨RX6, "at", "(II)I"⟩
abbrev cX6_isClock : ByteArray := prog_8_method_6_code
def yX6_isClock : MethodName := ⟨RX6, "isClock", "(I)Z"⟩
abbrev cX6_know : ByteArray := prog_8_method_7_code
def yX6_know : MethodName := ⟨RX6, "know", "()V"⟩
abbrev cX6_rate : ByteArray := prog_8_method_8_code
def yX6_rate : MethodName := ⟨RX6, "rate", "(I)I"⟩
abbrev cX6_isOff : ByteArray := prog_8_method_9_code
def yX6_isOff : MethodName := ⟨RX6, "isOff", "(I)Z"⟩
abbrev cX6_ladderOf : ByteArray := prog_8_method_10_code
def yX6_ladderOf : MethodName := ⟨RX6, "ladderOf", "(I)I"⟩
abbrev cX6_canWind : ByteArray := prog_8_method_11_code
def yX6_canWind : MethodName := ⟨RX6, "canWind", "(I)Z"⟩
abbrev cX6_day : ByteArray := prog_8_method_12_code
def yX6_day : MethodName := ⟨RX6, "day", "(I)V"⟩
abbrev cX6_way : ByteArray := prog_8_method_13_code
def yX6_way : MethodName := ⟨RX6, "way", "(II)I"⟩
abbrev cX6_minutes : ByteArray := prog_8_method_14_code
def yX6_minutes : MethodName := ⟨RX6, "minutes", "()I"⟩
abbrev cX6_work : ByteArray := prog_8_method_15_code
def yX6_work : MethodName := ⟨RX6, "work", "(I)V"⟩
abbrev cX6_goes : ByteArray := prog_8_method_16_code
def yX6_goes : MethodName := ⟨RX6, "goes", "()I"⟩
abbrev cX6_layOut : ByteArray := prog_8_method_17_code
def yX6_layOut : MethodName := ⟨RX6, "layOut", "(IZ)I"⟩
abbrev cX6_hangFault : ByteArray := prog_8_method_18_code
def yX6_hangFault : MethodName := ⟨RX6, "hangFault", "(III)I"⟩
abbrev cX6_hangs : ByteArray := prog_8_method_19_code
def yX6_hangs : MethodName := ⟨RX6, "hangs", "(III)I"⟩
abbrev cX6_ladderFault : ByteArray := prog_8_method_20_code
def yX6_ladderFault : MethodName := ⟨RX6, "ladderFault", "(I)I"⟩
abbrev cX6_buys : ByteArray := prog_8_method_21_code
def yX6_buys : MethodName := ⟨RX6, "buys", "(I)I"⟩
abbrev cX6_passFault : ByteArray := prog_8_method_22_code
def yX6_passFault : MethodName := ⟨RX6, "passFault", "(I)I"⟩
abbrev cX6_still : ByteArray := prog_8_method_23_code
def yX6_still : MethodName := ⟨RX6, "still", "()I"⟩
abbrev cX6_many : ByteArray := prog_8_method_24_code
def yX6_many : MethodName := ⟨RX6, "many", "(I)I"⟩
abbrev cX6_passes : ByteArray := prog_8_method_25_code
def yX6_passes : MethodName := ⟨RX6, "passes", "(I)I"⟩
abbrev cX6_changes : ByteArray := prog_8_method_26_code
def yX6_changes : MethodName := ⟨RX6, "changes", "(I)I"⟩
abbrev cX6_set : ByteArray := prog_8_method_27_code
def yX6_set : MethodName := ⟨RX6, "set", "(II)I"⟩
abbrev cX6_hang : ByteArray := prog_8_method_28_code
def yX6_hang : MethodName := ⟨RX6, "hang", "(III)I"⟩
abbrev cX6_ladder : ByteArray := prog_8_method_29_code
def yX6_ladder : MethodName := ⟨RX6, "ladder", "(I)I"⟩
abbrev cX6_screw : ByteArray := prog_8_method_30_code
def yX6_screw : MethodName := ⟨RX6, "screw", "(II)I"⟩
abbrev cX6_round : ByteArray := prog_8_method_31_code
def yX6_round : MethodName := ⟨RX6, "round", "(I)I"⟩
abbrev cX6_pass : ByteArray := prog_8_method_32_code
def yX6_pass : MethodName := ⟨RX6, "pass", "(I)I"⟩
abbrev cX6_change : ByteArray := prog_8_method_33_code
def yX6_change : MethodName := ⟨RX6, "change", "(I)I"⟩
abbrev cX6_of : ByteArray := prog_8_method_34_code
def yX6_of : MethodName := ⟨RX6, "of", "(II)I"⟩
abbrev cX6_ofLadder : ByteArray := prog_8_method_35_code
def yX6_ofLadder : MethodName := ⟨RX6, "ofLadder", "(I)I"⟩
abbrev cX6_sum : ByteArray := prog_8_method_36_code
def yX6_sum : MethodName := ⟨RX6, "sum", "(I)I"⟩
abbrev cX6_count : ByteArray := prog_8_method_37_code
def yX6_count : MethodName := ⟨RX6, "count", "(I)I"⟩
abbrev cX6_takes : ByteArray := prog_8_method_38_code
def yX6_takes : MethodName := ⟨RX6, "takes", "(I)I"⟩
abbrev cX6_keepClock : ByteArray := prog_8_method_39_code
def yX6_keepClock : MethodName := ⟨RX6, "keepClock", "(I)V"⟩
abbrev cX6_lasts : ByteArray := prog_8_method_40_code
def yX6_lasts : MethodName := ⟨RX6, "lasts", "(I)I"⟩
abbrev cX6_needs : ByteArray := prog_8_method_41_code
def yX6_needs : MethodName := ⟨RX6, "needs", "(I)I"⟩
abbrev cX6_ladderFor : ByteArray := prog_8_method_42_code
def yX6_ladderFor : MethodName := ⟨RX6, "ladderFor", "()I"⟩
abbrev cX6_wayRound : ByteArray := prog_8_method_43_code
def yX6_wayRound : MethodName := ⟨RX6, "wayRound", "(I)I"⟩
abbrev cX6_put : ByteArray := prog_8_method_44_code
def yX6_put : MethodName := ⟨RX6, "put", "(J)I"⟩
abbrev cX6_wipe : ByteArray := prog_8_method_45_code
def yX6_wipe : MethodName := ⟨RX6, "wipe", "()I"⟩
abbrev cX6_sign : ByteArray := prog_8_method_46_code
def yX6_sign : MethodName := ⟨RX6, "sign", "(II)I"⟩
abbrev cX6_isNext : ByteArray := prog_8_method_47_code
def yX6_isNext : MethodName := ⟨RX6, "isNext", "(II)Z"⟩
abbrev cX6_number : ByteArray := prog_8_method_48_code
def yX6_number : MethodName := ⟨RX6, "number", "()I"⟩
abbrev cX6_order : ByteArray := prog_8_method_49_code
def yX6_order : MethodName := ⟨RX6, "order", "()V"⟩
abbrev cX6_rowFault : ByteArray := prog_8_method_50_code
def yX6_rowFault : MethodName := ⟨RX6, "rowFault", "()I"⟩
abbrev cX6_does : ByteArray := prog_8_method_51_code
def yX6_does : MethodName := ⟨RX6, "does", "()Z"⟩
abbrev cX6_go : ByteArray := prog_8_method_52_code
def yX6_go : MethodName := ⟨RX6, "go", "(Z)I"⟩
abbrev cX6_fault : ByteArray := prog_8_method_53_code
def yX6_fault : MethodName := ⟨RX6, "fault", "()I"⟩
abbrev cX6_carryOut : ByteArray := prog_8_method_54_code
def yX6_carryOut : MethodName := ⟨RX6, "carryOut", "()I"⟩
abbrev cX6_undo : ByteArray := prog_8_method_55_code
def yX6_undo : MethodName := ⟨RX6, "undo", "()I"⟩
abbrev cX6_save : ByteArray := prog_8_method_56_code
def yX6_save : MethodName := ⟨RX6, "save", "(I)I"⟩
abbrev cX6_restore : ByteArray := prog_8_method_57_code
def yX6_restore : MethodName := ⟨RX6, "restore", "(I)I"⟩
def RJ9 : String := "java/lang/Math"
def TJ9 : u_T := fun k => match k with
  | _ => ("", "", "", false)
def tyJ9 : Nat → FieldType := fun k => match k with
  | _ => .int
abbrev wsJ90 : List Cond := u_ws RJ9 TJ9 0
theorem nmJ9 : ∀ a, a < 0 → ∀ b, b < 0 → a ≠ b → (TJ9 a).2.1 ≠ (TJ9 b).2.1 := by decide +kernel
theorem tyJ9_ok : ∀ k, k < 0 → parseFieldDescriptor (TJ9 k).2.2.1 = some (tyJ9 k) := by decide +kernel
abbrev cJ9_abs_0f7a4 : ByteArray := prog_9_method_59_code
def yJ9_abs_0f7a4 : MethodName := ⟨RJ9, "abs", "(I)I"⟩
abbrev cJ9_max_7cf53 : ByteArray := prog_9_method_65_code
def yJ9_max_7cf53 : MethodName := ⟨RJ9, "max", "(II)I"⟩
def RJ10 : String := "java/lang/System"
def TJ10 : u_T := fun k => match k with
  | _ => ("", "", "", false)
def tyJ10 : Nat → FieldType := fun k => match k with
  | _ => .int
abbrev wsJ100 : List Cond := u_ws RJ10 TJ10 0
theorem nmJ10 : ∀ a, a < 0 → ∀ b, b < 0 → a ≠ b → (TJ10 a).2.1 ≠ (TJ10 b).2.1 := by decide +kernel
theorem tyJ10_ok : ∀ k, k < 0 → parseFieldDescriptor (TJ10 k).2.2.1 = some (tyJ10 k) := by decide +kernel
def RL : String := "WinderLaddersLaw"
abbrev cL_law : ByteArray := code
def yL_law : MethodName := ⟨RL, "law", "([I)Z"⟩
def wsX0_init : List Cond := .code yX0_init cX0_init 1 none :: ([.methodLink RX0 3 objectInit, .instanceMethod objectInit, .code objectInit ⟨#[0xb1]⟩ 1 none])
def wsX0_copyFrom : List Cond := .code yX0_copyFrom cX0_copyFrom 2 none :: ([.fieldLink RX0 9 "WinderLadders$Clock" "house" "I", .fieldLink RX0 15 "WinderLadders$Clock" "rungs" "I", .fieldLink RX0 18 "WinderLadders$Clock" "drift" "I", .fieldLink RX0 21 "WinderLadders$Clock" "screw" "I", .fieldLink RX0 24 "WinderLadders$Clock" "off" "I", .fieldLink RX0 27 "WinderLadders$Clock" "daysSinceWound" "I", .fieldLink RX0 30 "WinderLadders$Clock" "timesWound" "I", .fieldLink RX0 33 "WinderLadders$Clock" "goes" "Z"] ++ wsX00)
def wsX0_begin : List Cond := .code yX0_begin cX0_begin 4 none :: ([.fieldLink RX0 9 "WinderLadders$Clock" "house" "I", .fieldLink RX0 15 "WinderLadders$Clock" "rungs" "I", .fieldLink RX0 18 "WinderLadders$Clock" "drift" "I", .fieldLink RX0 21 "WinderLadders$Clock" "screw" "I", .fieldLink RX0 24 "WinderLadders$Clock" "off" "I", .fieldLink RX0 27 "WinderLadders$Clock" "daysSinceWound" "I", .fieldLink RX0 30 "WinderLadders$Clock" "timesWound" "I", .fieldLink RX0 33 "WinderLadders$Clock" "goes" "Z"] ++ wsX00)
def wsX0_driftWithScrew : List Cond := .code yX0_driftWithScrew cX0_driftWithScrew 1 (some .int) :: ([.fieldLink RX0 18 "WinderLadders$Clock" "drift" "I", .fieldLink RX0 21 "WinderLadders$Clock" "screw" "I"] ++ wsX00)
def wsX0_isOffBeyond : List Cond := .code yX0_isOffBeyond cX0_isOffBeyond 2 (some .boolean) :: ([.fieldLink RX0 24 "WinderLadders$Clock" "off" "I", .methodLink RX0 37 Lib.Math.abs.name, .static Lib.Math.abs.name, .initialized "java/lang/Math", .code Lib.Math.abs.name Lib.Math.abs.code 1 (some .int)] ++ wsX00)
def wsX0_passDay : List Cond := .code yX0_passDay cX0_passDay 2 none :: ([.fieldLink RX0 33 "WinderLadders$Clock" "goes" "Z", .fieldLink RX0 24 "WinderLadders$Clock" "off" "I", .fieldLink RX0 27 "WinderLadders$Clock" "daysSinceWound" "I", .constant RX0 47 (43200), .methodLink RX0 43 yX0_driftWithScrew, .instanceMethod yX0_driftWithScrew, .selects RX0 yX0_driftWithScrew yX0_driftWithScrew, .initialized RX0, .code yX0_driftWithScrew cX0_driftWithScrew 1 (some .int), .fieldLink RX0 18 "WinderLadders$Clock" "drift" "I", .fieldLink RX0 21 "WinderLadders$Clock" "screw" "I"] ++ wsX00)
def wsX0_turnByRule : List Cond := .code yX0_turnByRule cX0_turnByRule 2 none :: ([.fieldLink RX0 21 "WinderLadders$Clock" "screw" "I", .methodLink RX0 43 yX0_driftWithScrew, .instanceMethod yX0_driftWithScrew, .selects RX0 yX0_driftWithScrew yX0_driftWithScrew, .initialized RX0, .code yX0_driftWithScrew cX0_driftWithScrew 1 (some .int), .fieldLink RX0 18 "WinderLadders$Clock" "drift" "I"] ++ wsX00)
def wsX0_windAndSet : List Cond := .code yX0_windAndSet cX0_windAndSet 2 none :: ([.fieldLink RX0 33 "WinderLadders$Clock" "goes" "Z", .fieldLink RX0 24 "WinderLadders$Clock" "off" "I", .fieldLink RX0 27 "WinderLadders$Clock" "daysSinceWound" "I", .fieldLink RX0 30 "WinderLadders$Clock" "timesWound" "I", .methodLink RX0 48 yX0_isOffBeyond, .instanceMethod yX0_isOffBeyond, .selects RX0 yX0_isOffBeyond yX0_isOffBeyond, .initialized RX0, .code yX0_isOffBeyond cX0_isOffBeyond 2 (some .boolean), .methodLink RX0 37 Lib.Math.abs.name, .static Lib.Math.abs.name, .initialized "java/lang/Math", .code Lib.Math.abs.name Lib.Math.abs.code 1 (some .int), .methodLink RX0 52 yX0_turnByRule, .instanceMethod yX0_turnByRule, .selects RX0 yX0_turnByRule yX0_turnByRule, .code yX0_turnByRule cX0_turnByRule 2 none, .fieldLink RX0 21 "WinderLadders$Clock" "screw" "I", .methodLink RX0 43 yX0_driftWithScrew, .instanceMethod yX0_driftWithScrew, .selects RX0 yX0_driftWithScrew yX0_driftWithScrew, .code yX0_driftWithScrew cX0_driftWithScrew 1 (some .int), .fieldLink RX0 18 "WinderLadders$Clock" "drift" "I"] ++ wsX00)
def wsX0_daysUntilOff : List Cond := .code yX0_daysUntilOff cX0_daysUntilOff 5 (some .int) :: ([.fieldLink RX0 27 "WinderLadders$Clock" "daysSinceWound" "I", .methodLink RX0 55 Lib.Math.max.name, .static Lib.Math.max.name, .initialized "java/lang/Math", .code Lib.Math.max.name Lib.Math.max.code 2 (some .int), .fieldLink RX0 24 "WinderLadders$Clock" "off" "I", .methodLink RX0 37 Lib.Math.abs.name, .static Lib.Math.abs.name, .code Lib.Math.abs.name Lib.Math.abs.code 1 (some .int), .methodLink RX0 48 yX0_isOffBeyond, .instanceMethod yX0_isOffBeyond, .selects RX0 yX0_isOffBeyond yX0_isOffBeyond, .initialized RX0, .code yX0_isOffBeyond cX0_isOffBeyond 2 (some .boolean), .methodLink RX0 43 yX0_driftWithScrew, .instanceMethod yX0_driftWithScrew, .selects RX0 yX0_driftWithScrew yX0_driftWithScrew, .code yX0_driftWithScrew cX0_driftWithScrew 1 (some .int), .fieldLink RX0 18 "WinderLadders$Clock" "drift" "I", .fieldLink RX0 21 "WinderLadders$Clock" "screw" "I"] ++ wsX00)
def wsX4_init : List Cond := .code yX4_init cX4_init 2 none :: ([.methodLink RX4 3 objectInit, .instanceMethod objectInit, .code objectInit ⟨#[0xb1]⟩ 1 none, .arrayClass .int, .fieldLink RX4 9 "WinderLadders$State" "settings" "[I", .classLink RX4 15 RX0, .fieldLink RX4 17 "WinderLadders$State" "clocks" "[LWinderLadders$Clock;", .fieldLink RX4 21 "WinderLadders$State" "ladders" "[I", .methodLink RX4 27 arraycopyName, .native arraycopyName, .static arraycopyName, .initialized "java/lang/System", .instantiable RX0 8, .initialized RX0, .instanceMethod yX0_init, .code yX0_init cX0_init 1 none, .methodLink RX0 3 objectInit] ++ wsX40 ++ wsX00)
def wsX1_init_r1 : List Cond := [Cond.methodLink RX1 3 objectInit, Cond.instanceMethod objectInit, Cond.code objectInit ⟨#[0xb1]⟩ 1 none, Cond.classLink RX1 9 RX4, Cond.fieldLink RX1 11 "WinderLadders$History" "states" "[LWinderLadders$State;", Cond.instantiable RX4 7, Cond.initialized RX4, Cond.methodLink RX1 17 yX4_init, Cond.instanceMethod yX4_init, Cond.code yX4_init cX4_init 2 none, Cond.methodLink RX4 3 objectInit, Cond.arrayClass .int, Cond.fieldLink RX4 9 "WinderLadders$State" "settings" "[I", Cond.classLink RX4 15 RX0, Cond.fieldLink RX4 17 "WinderLadders$State" "clocks" "[LWinderLadders$Clock;", Cond.fieldLink RX4 21 "WinderLadders$State" "ladders" "[I", Cond.methodLink RX4 27 arraycopyName, Cond.native arraycopyName, Cond.static arraycopyName, Cond.initialized "java/lang/System", Cond.instantiable RX0 8, Cond.initialized RX0, Cond.instanceMethod yX0_init, Cond.code yX0_init cX0_init 1 none]
def wsX1_init_r2 : List Cond := [Cond.methodLink RX0 3 objectInit]
def wsX1_init : List Cond := .code yX1_init cX1_init 2 none :: ((wsX1_init_r1 ++ wsX1_init_r2) ++ wsX10 ++ wsX40 ++ wsX00)
def wsX4_copyFrom : List Cond := .code yX4_copyFrom cX4_copyFrom 3 none :: ([.fieldLink RX4 9 "WinderLadders$State" "settings" "[I", .methodLink RX4 27 arraycopyName, .native arraycopyName, .static arraycopyName, .initialized "java/lang/System", .fieldLink RX4 21 "WinderLadders$State" "ladders" "[I", .fieldLink RX4 34 "WinderLadders$State" "clockCount" "I", .fieldLink RX4 17 "WinderLadders$State" "clocks" "[LWinderLadders$Clock;", .fieldLink RX4 42 "WinderLadders$State" "ladderCount" "I", .fieldLink RX4 45 "WinderLadders$State" "days" "I", .fieldLink RX4 48 "WinderLadders$State" "minutes" "I", .methodLink RX4 38 yX0_copyFrom, .instanceMethod yX0_copyFrom, .selects RX0 yX0_copyFrom yX0_copyFrom, .initialized RX0, .code yX0_copyFrom cX0_copyFrom 2 none, .fieldLink RX0 9 "WinderLadders$Clock" "house" "I", .fieldLink RX0 15 "WinderLadders$Clock" "rungs" "I", .fieldLink RX0 18 "WinderLadders$Clock" "drift" "I", .fieldLink RX0 21 "WinderLadders$Clock" "screw" "I", .fieldLink RX0 24 "WinderLadders$Clock" "off" "I", .fieldLink RX0 27 "WinderLadders$Clock" "daysSinceWound" "I", .fieldLink RX0 30 "WinderLadders$Clock" "timesWound" "I", .fieldLink RX0 33 "WinderLadders$Clock" "goes" "Z"] ++ wsX40 ++ wsX00)
def wsX1_prepare_r1 : List Cond := [Cond.fieldLink RX1 11 "WinderLadders$History" "states" "[LWinderLadders$State;", Cond.fieldLink RX1 18 "WinderLadders$History" "depth" "I", Cond.methodLink RX1 22 yX4_copyFrom, Cond.instanceMethod yX4_copyFrom, Cond.selects RX4 yX4_copyFrom yX4_copyFrom, Cond.initialized RX4, Cond.code yX4_copyFrom cX4_copyFrom 3 none, Cond.fieldLink RX4 9 "WinderLadders$State" "settings" "[I", Cond.methodLink RX4 27 arraycopyName, Cond.native arraycopyName, Cond.static arraycopyName, Cond.initialized "java/lang/System", Cond.fieldLink RX4 21 "WinderLadders$State" "ladders" "[I", Cond.fieldLink RX4 34 "WinderLadders$State" "clockCount" "I", Cond.fieldLink RX4 17 "WinderLadders$State" "clocks" "[LWinderLadders$Clock;", Cond.fieldLink RX4 42 "WinderLadders$State" "ladderCount" "I", Cond.fieldLink RX4 45 "WinderLadders$State" "days" "I", Cond.fieldLink RX4 48 "WinderLadders$State" "minutes" "I", Cond.methodLink RX4 38 yX0_copyFrom, Cond.instanceMethod yX0_copyFrom, Cond.selects RX0 yX0_copyFrom yX0_copyFrom, Cond.initialized RX0, Cond.code yX0_copyFrom cX0_copyFrom 2 none, Cond.fieldLink RX0 9 "WinderLadders$Clock" "house" "I"]
def wsX1_prepare_r2 : List Cond := [Cond.fieldLink RX0 15 "WinderLadders$Clock" "rungs" "I", Cond.fieldLink RX0 18 "WinderLadders$Clock" "drift" "I", Cond.fieldLink RX0 21 "WinderLadders$Clock" "screw" "I", Cond.fieldLink RX0 24 "WinderLadders$Clock" "off" "I", Cond.fieldLink RX0 27 "WinderLadders$Clock" "daysSinceWound" "I", Cond.fieldLink RX0 30 "WinderLadders$Clock" "timesWound" "I", Cond.fieldLink RX0 33 "WinderLadders$Clock" "goes" "Z"]
def wsX1_prepare : List Cond := .code yX1_prepare cX1_prepare 2 none :: ((wsX1_prepare_r1 ++ wsX1_prepare_r2) ++ wsX10 ++ wsX40 ++ wsX00)
def wsX1_dropOldest : List Cond := .code yX1_dropOldest cX1_dropOldest 3 none :: ([.fieldLink RX1 11 "WinderLadders$History" "states" "[LWinderLadders$State;"] ++ wsX10)
def wsX1_keepPrepared : List Cond := .code yX1_keepPrepared cX1_keepPrepared 1 none :: ([.fieldLink RX1 18 "WinderLadders$History" "depth" "I", .methodLink RX1 26 yX1_dropOldest, .instanceMethod yX1_dropOldest, .selects RX1 yX1_dropOldest yX1_dropOldest, .initialized RX1, .code yX1_dropOldest cX1_dropOldest 3 none, .fieldLink RX1 11 "WinderLadders$History" "states" "[LWinderLadders$State;"] ++ wsX10)
def wsX1_takeBack_r1 : List Cond := [Cond.fieldLink RX1 18 "WinderLadders$History" "depth" "I", Cond.fieldLink RX1 11 "WinderLadders$History" "states" "[LWinderLadders$State;", Cond.methodLink RX1 22 yX4_copyFrom, Cond.instanceMethod yX4_copyFrom, Cond.selects RX4 yX4_copyFrom yX4_copyFrom, Cond.initialized RX4, Cond.code yX4_copyFrom cX4_copyFrom 3 none, Cond.fieldLink RX4 9 "WinderLadders$State" "settings" "[I", Cond.methodLink RX4 27 arraycopyName, Cond.native arraycopyName, Cond.static arraycopyName, Cond.initialized "java/lang/System", Cond.fieldLink RX4 21 "WinderLadders$State" "ladders" "[I", Cond.fieldLink RX4 34 "WinderLadders$State" "clockCount" "I", Cond.fieldLink RX4 17 "WinderLadders$State" "clocks" "[LWinderLadders$Clock;", Cond.fieldLink RX4 42 "WinderLadders$State" "ladderCount" "I", Cond.fieldLink RX4 45 "WinderLadders$State" "days" "I", Cond.fieldLink RX4 48 "WinderLadders$State" "minutes" "I", Cond.methodLink RX4 38 yX0_copyFrom, Cond.instanceMethod yX0_copyFrom, Cond.selects RX0 yX0_copyFrom yX0_copyFrom, Cond.initialized RX0, Cond.code yX0_copyFrom cX0_copyFrom 2 none, Cond.fieldLink RX0 9 "WinderLadders$Clock" "house" "I"]
def wsX1_takeBack_r2 : List Cond := [Cond.fieldLink RX0 15 "WinderLadders$Clock" "rungs" "I", Cond.fieldLink RX0 18 "WinderLadders$Clock" "drift" "I", Cond.fieldLink RX0 21 "WinderLadders$Clock" "screw" "I", Cond.fieldLink RX0 24 "WinderLadders$Clock" "off" "I", Cond.fieldLink RX0 27 "WinderLadders$Clock" "daysSinceWound" "I", Cond.fieldLink RX0 30 "WinderLadders$Clock" "timesWound" "I", Cond.fieldLink RX0 33 "WinderLadders$Clock" "goes" "Z"]
def wsX1_takeBack : List Cond := .code yX1_takeBack cX1_takeBack 2 (some .boolean) :: ((wsX1_takeBack_r1 ++ wsX1_takeBack_r2) ++ wsX10 ++ wsX40 ++ wsX00)
def wsX3_init : List Cond := .code yX3_init cX3_init 1 none :: ([.methodLink RX3 3 objectInit, .instanceMethod objectInit, .code objectInit ⟨#[0xb1]⟩ 1 none, .arrayClass .int, .fieldLink RX3 9 "WinderLadders$Row" "numbers" "[I"] ++ wsX30)
def wsX2_init : List Cond := .code yX2_init cX2_init 1 none :: ([.methodLink RX2 3 objectInit, .instanceMethod objectInit, .code objectInit ⟨#[0xb1]⟩ 1 none, .arrayClass .char, .fieldLink RX2 9 "WinderLadders$Pad" "signs" "[C", .classLink RX2 15 RX3, .instantiable RX3 2, .initialized RX3, .fieldLink RX2 18 "WinderLadders$Pad" "numbers" "LWinderLadders$Row;", .instanceMethod yX3_init, .code yX3_init cX3_init 1 none, .methodLink RX3 3 objectInit, .arrayClass .int, .fieldLink RX3 9 "WinderLadders$Row" "numbers" "[I"] ++ wsX20 ++ wsX30)
def wsX2_append : List Cond := .code yX2_append cX2_append 2 none :: ([.fieldLink RX2 22 "WinderLadders$Pad" "length" "I", .fieldLink RX2 9 "WinderLadders$Pad" "signs" "[C"] ++ wsX20)
def wsX2_goToStart : List Cond := .code yX2_goToStart cX2_goToStart 1 none :: ([.fieldLink RX2 33 "WinderLadders$Pad" "place" "I"] ++ wsX20)
def wsX2_here : List Cond := .code yX2_here cX2_here 1 (some .char) :: ([.fieldLink RX2 33 "WinderLadders$Pad" "place" "I", .fieldLink RX2 22 "WinderLadders$Pad" "length" "I", .fieldLink RX2 9 "WinderLadders$Pad" "signs" "[C"] ++ wsX20)
def wsX2_take : List Cond := .code yX2_take cX2_take 2 (some .boolean) :: ([.fieldLink RX2 33 "WinderLadders$Pad" "place" "I", .methodLink RX2 43 yX2_here, .instanceMethod yX2_here, .selects RX2 yX2_here yX2_here, .initialized RX2, .code yX2_here cX2_here 1 (some .char), .fieldLink RX2 22 "WinderLadders$Pad" "length" "I", .fieldLink RX2 9 "WinderLadders$Pad" "signs" "[C"] ++ wsX20)
def wsX3_clear : List Cond := .code yX3_clear cX3_clear 1 none :: ([.fieldLink RX3 15 "WinderLadders$Row" "length" "I"] ++ wsX30)
def wsX2_isDigit : List Cond := .code yX2_isDigit cX2_isDigit 1 (some .boolean) :: ([])
def wsX3_add : List Cond := .code yX3_add cX3_add 2 (some .boolean) :: ([.fieldLink RX3 15 "WinderLadders$Row" "length" "I", .fieldLink RX3 9 "WinderLadders$Row" "numbers" "[I"] ++ wsX30)
def wsX2_readNumber : List Cond := .code yX2_readNumber cX2_readNumber 3 (some .boolean) :: ([.fieldLink RX2 33 "WinderLadders$Pad" "place" "I", .fieldLink RX2 18 "WinderLadders$Pad" "numbers" "LWinderLadders$Row;", .methodLink RX2 43 yX2_here, .instanceMethod yX2_here, .selects RX2 yX2_here yX2_here, .initialized RX2, .code yX2_here cX2_here 1 (some .char), .fieldLink RX2 22 "WinderLadders$Pad" "length" "I", .fieldLink RX2 9 "WinderLadders$Pad" "signs" "[C", .methodLink RX2 60 yX2_isDigit, .static yX2_isDigit, .code yX2_isDigit cX2_isDigit 1 (some .boolean), .methodLink RX2 63 yX3_add, .instanceMethod yX3_add, .selects RX3 yX3_add yX3_add, .initialized RX3, .code yX3_add cX3_add 2 (some .boolean), .fieldLink RX3 15 "WinderLadders$Row" "length" "I", .fieldLink RX3 9 "WinderLadders$Row" "numbers" "[I"] ++ wsX20 ++ wsX30)
def wsX2_readValue_r1 : List Cond := [Cond.methodLink RX2 36 yX2_take, Cond.instanceMethod yX2_take, Cond.selects RX2 yX2_take yX2_take, Cond.initialized RX2, Cond.code yX2_take cX2_take 2 (some .boolean), Cond.fieldLink RX2 33 "WinderLadders$Pad" "place" "I", Cond.methodLink RX2 43 yX2_here, Cond.instanceMethod yX2_here, Cond.selects RX2 yX2_here yX2_here, Cond.code yX2_here cX2_here 1 (some .char), Cond.fieldLink RX2 22 "WinderLadders$Pad" "length" "I", Cond.fieldLink RX2 9 "WinderLadders$Pad" "signs" "[C", Cond.methodLink RX2 50 yX2_readNumber, Cond.instanceMethod yX2_readNumber, Cond.selects RX2 yX2_readNumber yX2_readNumber, Cond.code yX2_readNumber cX2_readNumber 3 (some .boolean), Cond.fieldLink RX2 18 "WinderLadders$Pad" "numbers" "LWinderLadders$Row;", Cond.methodLink RX2 60 yX2_isDigit, Cond.static yX2_isDigit, Cond.code yX2_isDigit cX2_isDigit 1 (some .boolean), Cond.methodLink RX2 63 yX3_add, Cond.instanceMethod yX3_add, Cond.selects RX3 yX3_add yX3_add, Cond.initialized RX3]
def wsX2_readValue_r2 : List Cond := [Cond.code yX3_add cX3_add 2 (some .boolean), Cond.fieldLink RX3 15 "WinderLadders$Row" "length" "I", Cond.fieldLink RX3 9 "WinderLadders$Row" "numbers" "[I"]
def wsX2_readValue : List Cond := .code yX2_readValue cX2_readValue 1 (some .boolean) :: ((wsX2_readValue_r1 ++ wsX2_readValue_r2) ++ wsX20 ++ wsX30)
def wsX2_readNumbers_r1 : List Cond := [Cond.methodLink RX2 50 yX2_readNumber, Cond.instanceMethod yX2_readNumber, Cond.selects RX2 yX2_readNumber yX2_readNumber, Cond.initialized RX2, Cond.code yX2_readNumber cX2_readNumber 3 (some .boolean), Cond.fieldLink RX2 33 "WinderLadders$Pad" "place" "I", Cond.fieldLink RX2 18 "WinderLadders$Pad" "numbers" "LWinderLadders$Row;", Cond.methodLink RX2 43 yX2_here, Cond.instanceMethod yX2_here, Cond.selects RX2 yX2_here yX2_here, Cond.code yX2_here cX2_here 1 (some .char), Cond.fieldLink RX2 22 "WinderLadders$Pad" "length" "I", Cond.fieldLink RX2 9 "WinderLadders$Pad" "signs" "[C", Cond.methodLink RX2 60 yX2_isDigit, Cond.static yX2_isDigit, Cond.code yX2_isDigit cX2_isDigit 1 (some .boolean), Cond.methodLink RX2 63 yX3_add, Cond.instanceMethod yX3_add, Cond.selects RX3 yX3_add yX3_add, Cond.initialized RX3, Cond.code yX3_add cX3_add 2 (some .boolean), Cond.fieldLink RX3 15 "WinderLadders$Row" "length" "I", Cond.fieldLink RX3 9 "WinderLadders$Row" "numbers" "[I", Cond.methodLink RX2 36 yX2_take]
def wsX2_readNumbers_r2 : List Cond := [Cond.instanceMethod yX2_take, Cond.selects RX2 yX2_take yX2_take, Cond.code yX2_take cX2_take 2 (some .boolean)]
def wsX2_readNumbers : List Cond := .code yX2_readNumbers cX2_readNumbers 2 (some .boolean) :: ((wsX2_readNumbers_r1 ++ wsX2_readNumbers_r2) ++ wsX20 ++ wsX30)
def wsX2_readNext_r1 : List Cond := [Cond.fieldLink RX2 33 "WinderLadders$Pad" "place" "I", Cond.fieldLink RX2 18 "WinderLadders$Pad" "numbers" "LWinderLadders$Row;", Cond.fieldLink RX2 47 "WinderLadders$Pad" "kind" "I", Cond.methodLink RX2 36 yX2_take, Cond.instanceMethod yX2_take, Cond.selects RX2 yX2_take yX2_take, Cond.initialized RX2, Cond.code yX2_take cX2_take 2 (some .boolean), Cond.methodLink RX2 43 yX2_here, Cond.instanceMethod yX2_here, Cond.selects RX2 yX2_here yX2_here, Cond.code yX2_here cX2_here 1 (some .char), Cond.fieldLink RX2 22 "WinderLadders$Pad" "length" "I", Cond.fieldLink RX2 9 "WinderLadders$Pad" "signs" "[C", Cond.methodLink RX2 40 yX3_clear, Cond.instanceMethod yX3_clear, Cond.selects RX3 yX3_clear yX3_clear, Cond.initialized RX3, Cond.code yX3_clear cX3_clear 1 none, Cond.fieldLink RX3 15 "WinderLadders$Row" "length" "I", Cond.methodLink RX2 50 yX2_readNumber, Cond.instanceMethod yX2_readNumber, Cond.selects RX2 yX2_readNumber yX2_readNumber, Cond.code yX2_readNumber cX2_readNumber 3 (some .boolean)]
def wsX2_readNext_r2 : List Cond := [Cond.methodLink RX2 60 yX2_isDigit, Cond.static yX2_isDigit, Cond.code yX2_isDigit cX2_isDigit 1 (some .boolean), Cond.methodLink RX2 63 yX3_add, Cond.instanceMethod yX3_add, Cond.selects RX3 yX3_add yX3_add, Cond.code yX3_add cX3_add 2 (some .boolean), Cond.fieldLink RX3 9 "WinderLadders$Row" "numbers" "[I", Cond.methodLink RX2 54 yX2_readValue, Cond.instanceMethod yX2_readValue, Cond.selects RX2 yX2_readValue yX2_readValue, Cond.code yX2_readValue cX2_readValue 1 (some .boolean), Cond.methodLink RX2 57 yX2_readNumbers, Cond.instanceMethod yX2_readNumbers, Cond.selects RX2 yX2_readNumbers yX2_readNumbers, Cond.code yX2_readNumbers cX2_readNumbers 2 (some .boolean)]
def wsX2_readNext : List Cond := .code yX2_readNext cX2_readNext 1 (some .boolean) :: ((wsX2_readNext_r1 ++ wsX2_readNext_r2) ++ wsX20 ++ wsX30)
def wsX2_findFault_r1 : List Cond := [Cond.fieldLink RX2 33 "WinderLadders$Pad" "place" "I", Cond.fieldLink RX2 22 "WinderLadders$Pad" "length" "I", Cond.methodLink RX2 26 yX2_goToStart, Cond.instanceMethod yX2_goToStart, Cond.selects RX2 yX2_goToStart yX2_goToStart, Cond.initialized RX2, Cond.code yX2_goToStart cX2_goToStart 1 none, Cond.methodLink RX2 29 yX2_readNext, Cond.instanceMethod yX2_readNext, Cond.selects RX2 yX2_readNext yX2_readNext, Cond.code yX2_readNext cX2_readNext 1 (some .boolean), Cond.fieldLink RX2 18 "WinderLadders$Pad" "numbers" "LWinderLadders$Row;", Cond.fieldLink RX2 47 "WinderLadders$Pad" "kind" "I", Cond.methodLink RX2 36 yX2_take, Cond.instanceMethod yX2_take, Cond.selects RX2 yX2_take yX2_take, Cond.code yX2_take cX2_take 2 (some .boolean), Cond.methodLink RX2 43 yX2_here, Cond.instanceMethod yX2_here, Cond.selects RX2 yX2_here yX2_here, Cond.code yX2_here cX2_here 1 (some .char), Cond.fieldLink RX2 9 "WinderLadders$Pad" "signs" "[C", Cond.methodLink RX2 40 yX3_clear, Cond.instanceMethod yX3_clear]
def wsX2_findFault_r2 : List Cond := [Cond.selects RX3 yX3_clear yX3_clear, Cond.initialized RX3, Cond.code yX3_clear cX3_clear 1 none, Cond.fieldLink RX3 15 "WinderLadders$Row" "length" "I", Cond.methodLink RX2 50 yX2_readNumber, Cond.instanceMethod yX2_readNumber, Cond.selects RX2 yX2_readNumber yX2_readNumber, Cond.code yX2_readNumber cX2_readNumber 3 (some .boolean), Cond.methodLink RX2 60 yX2_isDigit, Cond.static yX2_isDigit, Cond.code yX2_isDigit cX2_isDigit 1 (some .boolean), Cond.methodLink RX2 63 yX3_add, Cond.instanceMethod yX3_add, Cond.selects RX3 yX3_add yX3_add, Cond.code yX3_add cX3_add 2 (some .boolean), Cond.fieldLink RX3 9 "WinderLadders$Row" "numbers" "[I", Cond.methodLink RX2 54 yX2_readValue, Cond.instanceMethod yX2_readValue, Cond.selects RX2 yX2_readValue yX2_readValue, Cond.code yX2_readValue cX2_readValue 1 (some .boolean), Cond.methodLink RX2 57 yX2_readNumbers, Cond.instanceMethod yX2_readNumbers, Cond.selects RX2 yX2_readNumbers yX2_readNumbers, Cond.code yX2_readNumbers cX2_readNumbers 2 (some .boolean)]
def wsX2_findFault : List Cond := .code yX2_findFault cX2_findFault 2 (some .int) :: ((wsX2_findFault_r1 ++ wsX2_findFault_r2) ++ wsX20 ++ wsX30)
def wsX3_at : List Cond := .code yX3_at cX3_at 2 (some .int) :: ([.fieldLink RX3 15 "WinderLadders$Row" "length" "I", .fieldLink RX3 9 "WinderLadders$Row" "numbers" "[I"] ++ wsX30)
def wsX3_turnRound : List Cond := .code yX3_turnRound cX3_turnRound 3 none :: ([.fieldLink RX3 15 "WinderLadders$Row" "length" "I", .fieldLink RX3 9 "WinderLadders$Row" "numbers" "[I"] ++ wsX30)
def wsX4_hasClock : List Cond := .code yX4_hasClock cX4_hasClock 2 (some .boolean) :: ([.fieldLink RX4 34 "WinderLadders$State" "clockCount" "I"] ++ wsX40)
def wsX4_hasLadder : List Cond := .code yX4_hasLadder cX4_hasLadder 2 (some .boolean) :: ([.fieldLink RX4 42 "WinderLadders$State" "ladderCount" "I"] ++ wsX40)
def wsX5_isWithin : List Cond := .code yX5_isWithin cX5_isWithin 3 (some .boolean) :: ([])
def wsX4_replaceSetting : List Cond := .code yX4_replaceSetting cX4_replaceSetting 4 (some .int) :: ([.fieldLink RX4 9 "WinderLadders$State" "settings" "[I", .static yX5_isWithin, .initialized RX5, .code yX5_isWithin cX5_isWithin 3 (some .boolean)] ++ wsX40)
def wsX4_addClock : List Cond := .code yX4_addClock cX4_addClock 4 (some .int) :: ([.fieldLink RX4 34 "WinderLadders$State" "clockCount" "I", .fieldLink RX4 17 "WinderLadders$State" "clocks" "[LWinderLadders$Clock;", .static yX5_isWithin, .initialized RX5, .code yX5_isWithin cX5_isWithin 3 (some .boolean), .methodLink RX4 58 yX0_begin, .instanceMethod yX0_begin, .selects RX0 yX0_begin yX0_begin, .initialized RX0, .code yX0_begin cX0_begin 4 none, .fieldLink RX0 9 "WinderLadders$Clock" "house" "I", .fieldLink RX0 15 "WinderLadders$Clock" "rungs" "I", .fieldLink RX0 18 "WinderLadders$Clock" "drift" "I", .fieldLink RX0 21 "WinderLadders$Clock" "screw" "I", .fieldLink RX0 24 "WinderLadders$Clock" "off" "I", .fieldLink RX0 27 "WinderLadders$Clock" "daysSinceWound" "I", .fieldLink RX0 30 "WinderLadders$Clock" "timesWound" "I", .fieldLink RX0 33 "WinderLadders$Clock" "goes" "Z"] ++ wsX40 ++ wsX00)
def wsX4_addLadder : List Cond := .code yX4_addLadder cX4_addLadder 2 (some .int) :: ([.fieldLink RX4 42 "WinderLadders$State" "ladderCount" "I", .fieldLink RX4 21 "WinderLadders$State" "ladders" "[I", .static yX5_isWithin, .initialized RX5, .code yX5_isWithin cX5_isWithin 3 (some .boolean)] ++ wsX40)
def wsX4_turnScrew : List Cond := .code yX4_turnScrew cX4_turnScrew 4 (some .int) :: ([.fieldLink RX4 17 "WinderLadders$State" "clocks" "[LWinderLadders$Clock;", .fieldLink RX4 66 "WinderLadders$Clock" "screw" "I", .methodLink RX4 62 yX4_hasClock, .instanceMethod yX4_hasClock, .selects RX4 yX4_hasClock yX4_hasClock, .initialized RX4, .code yX4_hasClock cX4_hasClock 2 (some .boolean), .fieldLink RX4 34 "WinderLadders$State" "clockCount" "I", .static yX5_isWithin, .initialized RX5, .code yX5_isWithin cX5_isWithin 3 (some .boolean)] ++ wsX40 ++ wsX00)
def wsX4_numberThatGo : List Cond := .code yX4_numberThatGo cX4_numberThatGo 3 (some .int) :: ([.fieldLink RX4 34 "WinderLadders$State" "clockCount" "I", .fieldLink RX4 17 "WinderLadders$State" "clocks" "[LWinderLadders$Clock;", .fieldLink RX4 77 "WinderLadders$Clock" "goes" "Z"] ++ wsX40 ++ wsX00)
def wsX4_passDays_r1 : List Cond := [Cond.fieldLink RX4 45 "WinderLadders$State" "days" "I", Cond.fieldLink RX4 34 "WinderLadders$State" "clockCount" "I", Cond.fieldLink RX4 17 "WinderLadders$State" "clocks" "[LWinderLadders$Clock;", Cond.fieldLink RX4 9 "WinderLadders$State" "settings" "[I", Cond.static yX5_isWithin, Cond.initialized RX5, Cond.code yX5_isWithin cX5_isWithin 3 (some .boolean), Cond.methodLink RX4 69 yX0_passDay, Cond.instanceMethod yX0_passDay, Cond.selects RX0 yX0_passDay yX0_passDay, Cond.initialized RX0, Cond.code yX0_passDay cX0_passDay 2 none, Cond.fieldLink RX0 33 "WinderLadders$Clock" "goes" "Z", Cond.fieldLink RX0 24 "WinderLadders$Clock" "off" "I", Cond.fieldLink RX0 27 "WinderLadders$Clock" "daysSinceWound" "I", Cond.constant RX0 47 (43200), Cond.methodLink RX0 43 yX0_driftWithScrew, Cond.instanceMethod yX0_driftWithScrew, Cond.selects RX0 yX0_driftWithScrew yX0_driftWithScrew, Cond.code yX0_driftWithScrew cX0_driftWithScrew 1 (some .int), Cond.fieldLink RX0 18 "WinderLadders$Clock" "drift" "I", Cond.fieldLink RX0 21 "WinderLadders$Clock" "screw" "I", Cond.methodLink RX4 73 yX4_numberThatGo, Cond.instanceMethod yX4_numberThatGo]
def wsX4_passDays_r2 : List Cond := [Cond.selects RX4 yX4_numberThatGo yX4_numberThatGo, Cond.initialized RX4, Cond.code yX4_numberThatGo cX4_numberThatGo 3 (some .int), Cond.fieldLink RX4 77 "WinderLadders$Clock" "goes" "Z"]
def wsX4_passDays : List Cond := .code yX4_passDays cX4_passDays 4 (some .int) :: ((wsX4_passDays_r1 ++ wsX4_passDays_r2) ++ wsX40 ++ wsX00)
def wsX4_changeClocks : List Cond := .code yX4_changeClocks cX4_changeClocks 4 (some .int) :: ([.fieldLink RX4 34 "WinderLadders$State" "clockCount" "I", .fieldLink RX4 17 "WinderLadders$State" "clocks" "[LWinderLadders$Clock;", .fieldLink RX4 77 "WinderLadders$Clock" "goes" "Z", .fieldLink RX4 81 "WinderLadders$Clock" "off" "I", .methodLink RX4 73 yX4_numberThatGo, .instanceMethod yX4_numberThatGo, .selects RX4 yX4_numberThatGo yX4_numberThatGo, .initialized RX4, .code yX4_numberThatGo cX4_numberThatGo 3 (some .int)] ++ wsX40 ++ wsX00)
def wsX4_ladderNeeded : List Cond := .code yX4_ladderNeeded cX4_ladderNeeded 5 (some .int) :: ([.fieldLink RX4 116 "WinderLadders$Clock" "rungs" "I", .fieldLink RX4 42 "WinderLadders$State" "ladderCount" "I", .fieldLink RX4 21 "WinderLadders$State" "ladders" "[I"] ++ wsX00 ++ wsX40)
def wsX4_canBeWound : List Cond := .code yX4_canBeWound cX4_canBeWound 2 (some .boolean) :: ([.fieldLink RX4 116 "WinderLadders$Clock" "rungs" "I", .methodLink RX4 112 yX4_ladderNeeded, .instanceMethod yX4_ladderNeeded, .selects RX4 yX4_ladderNeeded yX4_ladderNeeded, .initialized RX4, .code yX4_ladderNeeded cX4_ladderNeeded 5 (some .int), .fieldLink RX4 42 "WinderLadders$State" "ladderCount" "I", .fieldLink RX4 21 "WinderLadders$State" "ladders" "[I"] ++ wsX00 ++ wsX40)
def wsX4_minutesOf_r1 : List Cond := [Cond.fieldLink RX4 88 "WinderLadders$Row" "length" "I", Cond.fieldLink RX4 17 "WinderLadders$State" "clocks" "[LWinderLadders$Clock;", Cond.fieldLink RX4 104 "WinderLadders$Clock" "house" "I", Cond.methodLink RX4 107 Lib.Math.abs.name, Cond.static Lib.Math.abs.name, Cond.initialized "java/lang/Math", Cond.code Lib.Math.abs.name Lib.Math.abs.code 1 (some .int), Cond.fieldLink RX4 9 "WinderLadders$State" "settings" "[I", Cond.methodLink RX4 93 yX3_at, Cond.instanceMethod yX3_at, Cond.selects RX3 yX3_at yX3_at, Cond.initialized RX3, Cond.code yX3_at cX3_at 2 (some .int), Cond.fieldLink RX3 15 "WinderLadders$Row" "length" "I", Cond.fieldLink RX3 9 "WinderLadders$Row" "numbers" "[I", Cond.methodLink RX4 62 yX4_hasClock, Cond.instanceMethod yX4_hasClock, Cond.selects RX4 yX4_hasClock yX4_hasClock, Cond.initialized RX4, Cond.code yX4_hasClock cX4_hasClock 2 (some .boolean), Cond.fieldLink RX4 34 "WinderLadders$State" "clockCount" "I", Cond.methodLink RX4 112 yX4_ladderNeeded, Cond.instanceMethod yX4_ladderNeeded, Cond.selects RX4 yX4_ladderNeeded yX4_ladderNeeded]
def wsX4_minutesOf_r2 : List Cond := [Cond.code yX4_ladderNeeded cX4_ladderNeeded 5 (some .int), Cond.fieldLink RX4 116 "WinderLadders$Clock" "rungs" "I", Cond.fieldLink RX4 42 "WinderLadders$State" "ladderCount" "I", Cond.fieldLink RX4 21 "WinderLadders$State" "ladders" "[I", Cond.methodLink RX4 97 yX4_canBeWound, Cond.instanceMethod yX4_canBeWound, Cond.selects RX4 yX4_canBeWound yX4_canBeWound, Cond.code yX4_canBeWound cX4_canBeWound 2 (some .boolean)]
def wsX4_minutesOf : List Cond := .code yX4_minutesOf cX4_minutesOf 10 (some .int) :: ((wsX4_minutesOf_r1 ++ wsX4_minutesOf_r2) ++ wsX30 ++ wsX40 ++ wsX00)
def wsX4_walkBeat_r1 : List Cond := [Cond.fieldLink RX4 88 "WinderLadders$Row" "length" "I", Cond.fieldLink RX4 17 "WinderLadders$State" "clocks" "[LWinderLadders$Clock;", Cond.fieldLink RX4 9 "WinderLadders$State" "settings" "[I", Cond.fieldLink RX4 48 "WinderLadders$State" "minutes" "I", Cond.methodLink RX4 84 yX4_minutesOf, Cond.instanceMethod yX4_minutesOf, Cond.selects RX4 yX4_minutesOf yX4_minutesOf, Cond.initialized RX4, Cond.code yX4_minutesOf cX4_minutesOf 10 (some .int), Cond.fieldLink RX4 104 "WinderLadders$Clock" "house" "I", Cond.methodLink RX4 107 Lib.Math.abs.name, Cond.static Lib.Math.abs.name, Cond.initialized "java/lang/Math", Cond.code Lib.Math.abs.name Lib.Math.abs.code 1 (some .int), Cond.methodLink RX4 93 yX3_at, Cond.instanceMethod yX3_at, Cond.selects RX3 yX3_at yX3_at, Cond.initialized RX3, Cond.code yX3_at cX3_at 2 (some .int), Cond.fieldLink RX3 15 "WinderLadders$Row" "length" "I", Cond.fieldLink RX3 9 "WinderLadders$Row" "numbers" "[I", Cond.methodLink RX4 62 yX4_hasClock, Cond.instanceMethod yX4_hasClock, Cond.selects RX4 yX4_hasClock yX4_hasClock]
def wsX4_walkBeat_r2 : List Cond := [Cond.code yX4_hasClock cX4_hasClock 2 (some .boolean), Cond.fieldLink RX4 34 "WinderLadders$State" "clockCount" "I", Cond.methodLink RX4 112 yX4_ladderNeeded, Cond.instanceMethod yX4_ladderNeeded, Cond.selects RX4 yX4_ladderNeeded yX4_ladderNeeded, Cond.code yX4_ladderNeeded cX4_ladderNeeded 5 (some .int), Cond.fieldLink RX4 116 "WinderLadders$Clock" "rungs" "I", Cond.fieldLink RX4 42 "WinderLadders$State" "ladderCount" "I", Cond.fieldLink RX4 21 "WinderLadders$State" "ladders" "[I", Cond.methodLink RX4 97 yX4_canBeWound, Cond.instanceMethod yX4_canBeWound, Cond.selects RX4 yX4_canBeWound yX4_canBeWound, Cond.code yX4_canBeWound cX4_canBeWound 2 (some .boolean), Cond.methodLink RX4 101 yX0_windAndSet, Cond.instanceMethod yX0_windAndSet, Cond.selects RX0 yX0_windAndSet yX0_windAndSet, Cond.initialized RX0, Cond.code yX0_windAndSet cX0_windAndSet 2 none, Cond.fieldLink RX0 33 "WinderLadders$Clock" "goes" "Z", Cond.fieldLink RX0 24 "WinderLadders$Clock" "off" "I", Cond.fieldLink RX0 27 "WinderLadders$Clock" "daysSinceWound" "I", Cond.fieldLink RX0 30 "WinderLadders$Clock" "timesWound" "I", Cond.methodLink RX0 48 yX0_isOffBeyond, Cond.instanceMethod yX0_isOffBeyond]
def wsX4_walkBeat_r3 : List Cond := [Cond.selects RX0 yX0_isOffBeyond yX0_isOffBeyond, Cond.code yX0_isOffBeyond cX0_isOffBeyond 2 (some .boolean), Cond.methodLink RX0 37 Lib.Math.abs.name, Cond.methodLink RX0 52 yX0_turnByRule, Cond.instanceMethod yX0_turnByRule, Cond.selects RX0 yX0_turnByRule yX0_turnByRule, Cond.code yX0_turnByRule cX0_turnByRule 2 none, Cond.fieldLink RX0 21 "WinderLadders$Clock" "screw" "I", Cond.methodLink RX0 43 yX0_driftWithScrew, Cond.instanceMethod yX0_driftWithScrew, Cond.selects RX0 yX0_driftWithScrew yX0_driftWithScrew, Cond.code yX0_driftWithScrew cX0_driftWithScrew 1 (some .int), Cond.fieldLink RX0 18 "WinderLadders$Clock" "drift" "I"]
def wsX4_walkBeat : List Cond := .code yX4_walkBeat cX4_walkBeat 5 (some .int) :: ((wsX4_walkBeat_r1 ++ (wsX4_walkBeat_r2 ++ wsX4_walkBeat_r3)) ++ wsX30 ++ wsX40 ++ wsX00)
def wsX4_setOfStill : List Cond := .code yX4_setOfStill cX4_setOfStill 3 (some .int) :: ([.fieldLink RX4 34 "WinderLadders$State" "clockCount" "I", .fieldLink RX4 17 "WinderLadders$State" "clocks" "[LWinderLadders$Clock;", .fieldLink RX4 77 "WinderLadders$Clock" "goes" "Z"] ++ wsX40 ++ wsX00)
def wsX4_numberOffBeyondTold : List Cond := .code yX4_numberOffBeyondTold cX4_numberOffBeyondTold 3 (some .int) :: ([.fieldLink RX4 34 "WinderLadders$State" "clockCount" "I", .fieldLink RX4 17 "WinderLadders$State" "clocks" "[LWinderLadders$Clock;", .fieldLink RX4 9 "WinderLadders$State" "settings" "[I", .methodLink RX4 119 yX0_isOffBeyond, .instanceMethod yX0_isOffBeyond, .selects RX0 yX0_isOffBeyond yX0_isOffBeyond, .initialized RX0, .code yX0_isOffBeyond cX0_isOffBeyond 2 (some .boolean), .fieldLink RX0 24 "WinderLadders$Clock" "off" "I", .methodLink RX0 37 Lib.Math.abs.name, .static Lib.Math.abs.name, .initialized "java/lang/Math", .code Lib.Math.abs.name Lib.Math.abs.code 1 (some .int)] ++ wsX40 ++ wsX00)
def wsX4_numberThatCannotBeWound : List Cond := .code yX4_numberThatCannotBeWound cX4_numberThatCannotBeWound 3 (some .int) :: ([.fieldLink RX4 34 "WinderLadders$State" "clockCount" "I", .fieldLink RX4 17 "WinderLadders$State" "clocks" "[LWinderLadders$Clock;", .methodLink RX4 97 yX4_canBeWound, .instanceMethod yX4_canBeWound, .selects RX4 yX4_canBeWound yX4_canBeWound, .initialized RX4, .code yX4_canBeWound cX4_canBeWound 2 (some .boolean), .fieldLink RX4 116 "WinderLadders$Clock" "rungs" "I", .methodLink RX4 112 yX4_ladderNeeded, .instanceMethod yX4_ladderNeeded, .selects RX4 yX4_ladderNeeded yX4_ladderNeeded, .code yX4_ladderNeeded cX4_ladderNeeded 5 (some .int), .fieldLink RX4 42 "WinderLadders$State" "ladderCount" "I", .fieldLink RX4 21 "WinderLadders$State" "ladders" "[I"] ++ wsX40 ++ wsX00)
def wsX4_timesWoundInAll : List Cond := .code yX4_timesWoundInAll cX4_timesWoundInAll 3 (some .int) :: ([.fieldLink RX4 34 "WinderLadders$State" "clockCount" "I", .fieldLink RX4 17 "WinderLadders$State" "clocks" "[LWinderLadders$Clock;", .fieldLink RX4 122 "WinderLadders$Clock" "timesWound" "I"] ++ wsX40 ++ wsX00)
def wsX4_rungsOutOfReach : List Cond := .code yX4_rungsOutOfReach cX4_rungsOutOfReach 3 (some .int) :: ([.fieldLink RX4 34 "WinderLadders$State" "clockCount" "I", .fieldLink RX4 17 "WinderLadders$State" "clocks" "[LWinderLadders$Clock;", .fieldLink RX4 116 "WinderLadders$Clock" "rungs" "I", .methodLink RX4 125 Lib.Math.max.name, .static Lib.Math.max.name, .initialized "java/lang/Math", .code Lib.Math.max.name Lib.Math.max.code 2 (some .int), .methodLink RX4 97 yX4_canBeWound, .instanceMethod yX4_canBeWound, .selects RX4 yX4_canBeWound yX4_canBeWound, .initialized RX4, .code yX4_canBeWound cX4_canBeWound 2 (some .boolean), .methodLink RX4 112 yX4_ladderNeeded, .instanceMethod yX4_ladderNeeded, .selects RX4 yX4_ladderNeeded yX4_ladderNeeded, .code yX4_ladderNeeded cX4_ladderNeeded 5 (some .int), .fieldLink RX4 42 "WinderLadders$State" "ladderCount" "I", .fieldLink RX4 21 "WinderLadders$State" "ladders" "[I"] ++ wsX40 ++ wsX00)
def wsX4_daysUntilOff_r1 : List Cond := [Cond.fieldLink RX4 17 "WinderLadders$State" "clocks" "[LWinderLadders$Clock;", Cond.fieldLink RX4 9 "WinderLadders$State" "settings" "[I", Cond.methodLink RX4 62 yX4_hasClock, Cond.instanceMethod yX4_hasClock, Cond.selects RX4 yX4_hasClock yX4_hasClock, Cond.initialized RX4, Cond.code yX4_hasClock cX4_hasClock 2 (some .boolean), Cond.fieldLink RX4 34 "WinderLadders$State" "clockCount" "I", Cond.methodLink RX4 129 yX0_daysUntilOff, Cond.instanceMethod yX0_daysUntilOff, Cond.selects RX0 yX0_daysUntilOff yX0_daysUntilOff, Cond.initialized RX0, Cond.code yX0_daysUntilOff cX0_daysUntilOff 5 (some .int), Cond.fieldLink RX0 27 "WinderLadders$Clock" "daysSinceWound" "I", Cond.methodLink RX0 55 Lib.Math.max.name, Cond.static Lib.Math.max.name, Cond.initialized "java/lang/Math", Cond.code Lib.Math.max.name Lib.Math.max.code 2 (some .int), Cond.fieldLink RX0 24 "WinderLadders$Clock" "off" "I", Cond.methodLink RX0 37 Lib.Math.abs.name, Cond.static Lib.Math.abs.name, Cond.code Lib.Math.abs.name Lib.Math.abs.code 1 (some .int), Cond.methodLink RX0 48 yX0_isOffBeyond, Cond.instanceMethod yX0_isOffBeyond]
def wsX4_daysUntilOff_r2 : List Cond := [Cond.selects RX0 yX0_isOffBeyond yX0_isOffBeyond, Cond.code yX0_isOffBeyond cX0_isOffBeyond 2 (some .boolean), Cond.methodLink RX0 43 yX0_driftWithScrew, Cond.instanceMethod yX0_driftWithScrew, Cond.selects RX0 yX0_driftWithScrew yX0_driftWithScrew, Cond.code yX0_driftWithScrew cX0_driftWithScrew 1 (some .int), Cond.fieldLink RX0 18 "WinderLadders$Clock" "drift" "I", Cond.fieldLink RX0 21 "WinderLadders$Clock" "screw" "I"]
def wsX4_daysUntilOff : List Cond := .code yX4_daysUntilOff cX4_daysUntilOff 2 (some .int) :: ((wsX4_daysUntilOff_r1 ++ wsX4_daysUntilOff_r2) ++ wsX40 ++ wsX00)
def wsX4_rankOf_r1 : List Cond := [Cond.fieldLink RX4 34 "WinderLadders$State" "clockCount" "I", Cond.methodLink RX4 132 yX4_daysUntilOff, Cond.instanceMethod yX4_daysUntilOff, Cond.selects RX4 yX4_daysUntilOff yX4_daysUntilOff, Cond.initialized RX4, Cond.code yX4_daysUntilOff cX4_daysUntilOff 2 (some .int), Cond.fieldLink RX4 17 "WinderLadders$State" "clocks" "[LWinderLadders$Clock;", Cond.fieldLink RX4 9 "WinderLadders$State" "settings" "[I", Cond.methodLink RX4 62 yX4_hasClock, Cond.instanceMethod yX4_hasClock, Cond.selects RX4 yX4_hasClock yX4_hasClock, Cond.code yX4_hasClock cX4_hasClock 2 (some .boolean), Cond.methodLink RX4 129 yX0_daysUntilOff, Cond.instanceMethod yX0_daysUntilOff, Cond.selects RX0 yX0_daysUntilOff yX0_daysUntilOff, Cond.initialized RX0, Cond.code yX0_daysUntilOff cX0_daysUntilOff 5 (some .int), Cond.fieldLink RX0 27 "WinderLadders$Clock" "daysSinceWound" "I", Cond.methodLink RX0 55 Lib.Math.max.name, Cond.static Lib.Math.max.name, Cond.initialized "java/lang/Math", Cond.code Lib.Math.max.name Lib.Math.max.code 2 (some .int), Cond.fieldLink RX0 24 "WinderLadders$Clock" "off" "I", Cond.methodLink RX0 37 Lib.Math.abs.name]
def wsX4_rankOf_r2 : List Cond := [Cond.static Lib.Math.abs.name, Cond.code Lib.Math.abs.name Lib.Math.abs.code 1 (some .int), Cond.methodLink RX0 48 yX0_isOffBeyond, Cond.instanceMethod yX0_isOffBeyond, Cond.selects RX0 yX0_isOffBeyond yX0_isOffBeyond, Cond.code yX0_isOffBeyond cX0_isOffBeyond 2 (some .boolean), Cond.methodLink RX0 43 yX0_driftWithScrew, Cond.instanceMethod yX0_driftWithScrew, Cond.selects RX0 yX0_driftWithScrew yX0_driftWithScrew, Cond.code yX0_driftWithScrew cX0_driftWithScrew 1 (some .int), Cond.fieldLink RX0 18 "WinderLadders$Clock" "drift" "I", Cond.fieldLink RX0 21 "WinderLadders$Clock" "screw" "I"]
def wsX4_rankOf : List Cond := .code yX4_rankOf cX4_rankOf 6 (some .int) :: ((wsX4_rankOf_r1 ++ wsX4_rankOf_r2) ++ wsX40 ++ wsX00)
def wsX5_init_r1 : List Cond := [Cond.methodLink RX5 3 objectInit, Cond.instanceMethod objectInit, Cond.code objectInit ⟨#[0xb1]⟩ 1 none, Cond.classLink RX5 9 RX4, Cond.instantiable RX4 7, Cond.initialized RX4, Cond.fieldLink RX5 12 "WinderLadders" "now" "LWinderLadders$State;", Cond.classLink RX5 16 RX1, Cond.instantiable RX1 2, Cond.initialized RX1, Cond.fieldLink RX5 19 "WinderLadders" "history" "LWinderLadders$History;", Cond.fieldLink RX5 23 "WinderLadders" "slots" "[LWinderLadders$State;", Cond.arrayClass .boolean, Cond.fieldLink RX5 27 "WinderLadders" "slotHolds" "[Z", Cond.classLink RX5 31 RX2, Cond.instantiable RX2 5, Cond.initialized RX2, Cond.fieldLink RX5 34 "WinderLadders" "pad" "LWinderLadders$Pad;", Cond.classLink RX5 38 RX3, Cond.instantiable RX3 2, Cond.initialized RX3, Cond.fieldLink RX5 41 "WinderLadders" "row" "LWinderLadders$Row;", Cond.methodLink RX5 11 yX4_init, Cond.instanceMethod yX4_init]
def wsX5_init_r2 : List Cond := [Cond.code yX4_init cX4_init 2 none, Cond.methodLink RX4 3 objectInit, Cond.arrayClass .int, Cond.fieldLink RX4 9 "WinderLadders$State" "settings" "[I", Cond.classLink RX4 15 RX0, Cond.fieldLink RX4 17 "WinderLadders$State" "clocks" "[LWinderLadders$Clock;", Cond.fieldLink RX4 21 "WinderLadders$State" "ladders" "[I", Cond.methodLink RX4 27 arraycopyName, Cond.native arraycopyName, Cond.static arraycopyName, Cond.initialized "java/lang/System", Cond.instantiable RX0 8, Cond.initialized RX0, Cond.instanceMethod yX0_init, Cond.code yX0_init cX0_init 1 none, Cond.methodLink RX0 3 objectInit, Cond.methodLink RX5 18 yX1_init, Cond.instanceMethod yX1_init, Cond.code yX1_init cX1_init 2 none, Cond.methodLink RX1 3 objectInit, Cond.classLink RX1 9 RX4, Cond.fieldLink RX1 11 "WinderLadders$History" "states" "[LWinderLadders$State;", Cond.methodLink RX1 17 yX4_init, Cond.instanceMethod yX2_init]
def wsX5_init_r3 : List Cond := [Cond.code yX2_init cX2_init 1 none, Cond.methodLink RX2 3 objectInit, Cond.arrayClass .char, Cond.fieldLink RX2 9 "WinderLadders$Pad" "signs" "[C", Cond.classLink RX2 15 RX3, Cond.fieldLink RX2 18 "WinderLadders$Pad" "numbers" "LWinderLadders$Row;", Cond.instanceMethod yX3_init, Cond.code yX3_init cX3_init 1 none, Cond.methodLink RX3 3 objectInit, Cond.fieldLink RX3 9 "WinderLadders$Row" "numbers" "[I"]
def wsX5_init : List Cond := .code yX5_init cX5_init 2 none :: ((wsX5_init_r1 ++ (wsX5_init_r2 ++ wsX5_init_r3)) ++ wsX40 ++ wsX50 ++ wsX10 ++ wsX20 ++ wsX30 ++ wsX00)
def wsX5_keptIfDone : List Cond := .code yX5_keptIfDone cX5_keptIfDone 2 (some .int) :: ([.fieldLink RX5 19 "WinderLadders" "history" "LWinderLadders$History;", .methodLink RX5 209 yX1_keepPrepared, .instanceMethod yX1_keepPrepared, .selects RX1 yX1_keepPrepared yX1_keepPrepared, .initialized RX1, .code yX1_keepPrepared cX1_keepPrepared 1 none, .fieldLink RX1 18 "WinderLadders$History" "depth" "I", .methodLink RX1 26 yX1_dropOldest, .instanceMethod yX1_dropOldest, .selects RX1 yX1_dropOldest yX1_dropOldest, .code yX1_dropOldest cX1_dropOldest 3 none, .fieldLink RX1 11 "WinderLadders$History" "states" "[LWinderLadders$State;"] ++ wsX50 ++ wsX10)
def wsX5_set_r1 : List Cond := [Cond.fieldLink RX5 19 "WinderLadders" "history" "LWinderLadders$History;", Cond.fieldLink RX5 12 "WinderLadders" "now" "LWinderLadders$State;", Cond.methodLink RX5 45 yX1_prepare, Cond.instanceMethod yX1_prepare, Cond.selects RX1 yX1_prepare yX1_prepare, Cond.initialized RX1, Cond.code yX1_prepare cX1_prepare 2 none, Cond.fieldLink RX1 11 "WinderLadders$History" "states" "[LWinderLadders$State;", Cond.fieldLink RX1 18 "WinderLadders$History" "depth" "I", Cond.methodLink RX1 22 yX4_copyFrom, Cond.instanceMethod yX4_copyFrom, Cond.selects RX4 yX4_copyFrom yX4_copyFrom, Cond.initialized RX4, Cond.code yX4_copyFrom cX4_copyFrom 3 none, Cond.fieldLink RX4 9 "WinderLadders$State" "settings" "[I", Cond.methodLink RX4 27 arraycopyName, Cond.native arraycopyName, Cond.static arraycopyName, Cond.initialized "java/lang/System", Cond.fieldLink RX4 21 "WinderLadders$State" "ladders" "[I", Cond.fieldLink RX4 34 "WinderLadders$State" "clockCount" "I", Cond.fieldLink RX4 17 "WinderLadders$State" "clocks" "[LWinderLadders$Clock;", Cond.fieldLink RX4 42 "WinderLadders$State" "ladderCount" "I", Cond.fieldLink RX4 45 "WinderLadders$State" "days" "I"]
def wsX5_set_r2 : List Cond := [Cond.fieldLink RX4 48 "WinderLadders$State" "minutes" "I", Cond.methodLink RX4 38 yX0_copyFrom, Cond.instanceMethod yX0_copyFrom, Cond.selects RX0 yX0_copyFrom yX0_copyFrom, Cond.initialized RX0, Cond.code yX0_copyFrom cX0_copyFrom 2 none, Cond.fieldLink RX0 9 "WinderLadders$Clock" "house" "I", Cond.fieldLink RX0 15 "WinderLadders$Clock" "rungs" "I", Cond.fieldLink RX0 18 "WinderLadders$Clock" "drift" "I", Cond.fieldLink RX0 21 "WinderLadders$Clock" "screw" "I", Cond.fieldLink RX0 24 "WinderLadders$Clock" "off" "I", Cond.fieldLink RX0 27 "WinderLadders$Clock" "daysSinceWound" "I", Cond.fieldLink RX0 30 "WinderLadders$Clock" "timesWound" "I", Cond.fieldLink RX0 33 "WinderLadders$Clock" "goes" "Z", Cond.methodLink RX5 49 yX4_replaceSetting, Cond.instanceMethod yX4_replaceSetting, Cond.selects RX4 yX4_replaceSetting yX4_replaceSetting, Cond.code yX4_replaceSetting cX4_replaceSetting 4 (some .int), Cond.static yX5_isWithin, Cond.initialized RX5, Cond.code yX5_isWithin cX5_isWithin 3 (some .boolean), Cond.methodLink RX5 53 yX5_keptIfDone, Cond.instanceMethod yX5_keptIfDone, Cond.selects RX5 yX5_keptIfDone yX5_keptIfDone]
def wsX5_set_r3 : List Cond := [Cond.code yX5_keptIfDone cX5_keptIfDone 2 (some .int), Cond.methodLink RX5 209 yX1_keepPrepared, Cond.instanceMethod yX1_keepPrepared, Cond.selects RX1 yX1_keepPrepared yX1_keepPrepared, Cond.code yX1_keepPrepared cX1_keepPrepared 1 none, Cond.methodLink RX1 26 yX1_dropOldest, Cond.instanceMethod yX1_dropOldest, Cond.selects RX1 yX1_dropOldest yX1_dropOldest, Cond.code yX1_dropOldest cX1_dropOldest 3 none]
def wsX5_set : List Cond := .code yX5_set cX5_set 3 (some .int) :: ((wsX5_set_r1 ++ (wsX5_set_r2 ++ wsX5_set_r3)) ++ wsX50 ++ wsX10 ++ wsX40 ++ wsX00)
def wsX5_hang_r1 : List Cond := [Cond.fieldLink RX5 19 "WinderLadders" "history" "LWinderLadders$History;", Cond.fieldLink RX5 12 "WinderLadders" "now" "LWinderLadders$State;", Cond.methodLink RX5 45 yX1_prepare, Cond.instanceMethod yX1_prepare, Cond.selects RX1 yX1_prepare yX1_prepare, Cond.initialized RX1, Cond.code yX1_prepare cX1_prepare 2 none, Cond.fieldLink RX1 11 "WinderLadders$History" "states" "[LWinderLadders$State;", Cond.fieldLink RX1 18 "WinderLadders$History" "depth" "I", Cond.methodLink RX1 22 yX4_copyFrom, Cond.instanceMethod yX4_copyFrom, Cond.selects RX4 yX4_copyFrom yX4_copyFrom, Cond.initialized RX4, Cond.code yX4_copyFrom cX4_copyFrom 3 none, Cond.fieldLink RX4 9 "WinderLadders$State" "settings" "[I", Cond.methodLink RX4 27 arraycopyName, Cond.native arraycopyName, Cond.static arraycopyName, Cond.initialized "java/lang/System", Cond.fieldLink RX4 21 "WinderLadders$State" "ladders" "[I", Cond.fieldLink RX4 34 "WinderLadders$State" "clockCount" "I", Cond.fieldLink RX4 17 "WinderLadders$State" "clocks" "[LWinderLadders$Clock;", Cond.fieldLink RX4 42 "WinderLadders$State" "ladderCount" "I", Cond.fieldLink RX4 45 "WinderLadders$State" "days" "I"]
def wsX5_hang_r2 : List Cond := [Cond.fieldLink RX4 48 "WinderLadders$State" "minutes" "I", Cond.methodLink RX4 38 yX0_copyFrom, Cond.instanceMethod yX0_copyFrom, Cond.selects RX0 yX0_copyFrom yX0_copyFrom, Cond.initialized RX0, Cond.code yX0_copyFrom cX0_copyFrom 2 none, Cond.fieldLink RX0 9 "WinderLadders$Clock" "house" "I", Cond.fieldLink RX0 15 "WinderLadders$Clock" "rungs" "I", Cond.fieldLink RX0 18 "WinderLadders$Clock" "drift" "I", Cond.fieldLink RX0 21 "WinderLadders$Clock" "screw" "I", Cond.fieldLink RX0 24 "WinderLadders$Clock" "off" "I", Cond.fieldLink RX0 27 "WinderLadders$Clock" "daysSinceWound" "I", Cond.fieldLink RX0 30 "WinderLadders$Clock" "timesWound" "I", Cond.fieldLink RX0 33 "WinderLadders$Clock" "goes" "Z", Cond.methodLink RX5 57 yX4_addClock, Cond.instanceMethod yX4_addClock, Cond.selects RX4 yX4_addClock yX4_addClock, Cond.code yX4_addClock cX4_addClock 4 (some .int), Cond.static yX5_isWithin, Cond.initialized RX5, Cond.code yX5_isWithin cX5_isWithin 3 (some .boolean), Cond.methodLink RX4 58 yX0_begin, Cond.instanceMethod yX0_begin, Cond.selects RX0 yX0_begin yX0_begin]
def wsX5_hang_r3 : List Cond := [Cond.code yX0_begin cX0_begin 4 none, Cond.methodLink RX5 53 yX5_keptIfDone, Cond.instanceMethod yX5_keptIfDone, Cond.selects RX5 yX5_keptIfDone yX5_keptIfDone, Cond.code yX5_keptIfDone cX5_keptIfDone 2 (some .int), Cond.methodLink RX5 209 yX1_keepPrepared, Cond.instanceMethod yX1_keepPrepared, Cond.selects RX1 yX1_keepPrepared yX1_keepPrepared, Cond.code yX1_keepPrepared cX1_keepPrepared 1 none, Cond.methodLink RX1 26 yX1_dropOldest, Cond.instanceMethod yX1_dropOldest, Cond.selects RX1 yX1_dropOldest yX1_dropOldest, Cond.code yX1_dropOldest cX1_dropOldest 3 none]
def wsX5_hang : List Cond := .code yX5_hang cX5_hang 4 (some .int) :: ((wsX5_hang_r1 ++ (wsX5_hang_r2 ++ wsX5_hang_r3)) ++ wsX50 ++ wsX10 ++ wsX40 ++ wsX00)
def wsX5_ladder_r1 : List Cond := [Cond.fieldLink RX5 19 "WinderLadders" "history" "LWinderLadders$History;", Cond.fieldLink RX5 12 "WinderLadders" "now" "LWinderLadders$State;", Cond.methodLink RX5 45 yX1_prepare, Cond.instanceMethod yX1_prepare, Cond.selects RX1 yX1_prepare yX1_prepare, Cond.initialized RX1, Cond.code yX1_prepare cX1_prepare 2 none, Cond.fieldLink RX1 11 "WinderLadders$History" "states" "[LWinderLadders$State;", Cond.fieldLink RX1 18 "WinderLadders$History" "depth" "I", Cond.methodLink RX1 22 yX4_copyFrom, Cond.instanceMethod yX4_copyFrom, Cond.selects RX4 yX4_copyFrom yX4_copyFrom, Cond.initialized RX4, Cond.code yX4_copyFrom cX4_copyFrom 3 none, Cond.fieldLink RX4 9 "WinderLadders$State" "settings" "[I", Cond.methodLink RX4 27 arraycopyName, Cond.native arraycopyName, Cond.static arraycopyName, Cond.initialized "java/lang/System", Cond.fieldLink RX4 21 "WinderLadders$State" "ladders" "[I", Cond.fieldLink RX4 34 "WinderLadders$State" "clockCount" "I", Cond.fieldLink RX4 17 "WinderLadders$State" "clocks" "[LWinderLadders$Clock;", Cond.fieldLink RX4 42 "WinderLadders$State" "ladderCount" "I", Cond.fieldLink RX4 45 "WinderLadders$State" "days" "I"]
def wsX5_ladder_r2 : List Cond := [Cond.fieldLink RX4 48 "WinderLadders$State" "minutes" "I", Cond.methodLink RX4 38 yX0_copyFrom, Cond.instanceMethod yX0_copyFrom, Cond.selects RX0 yX0_copyFrom yX0_copyFrom, Cond.initialized RX0, Cond.code yX0_copyFrom cX0_copyFrom 2 none, Cond.fieldLink RX0 9 "WinderLadders$Clock" "house" "I", Cond.fieldLink RX0 15 "WinderLadders$Clock" "rungs" "I", Cond.fieldLink RX0 18 "WinderLadders$Clock" "drift" "I", Cond.fieldLink RX0 21 "WinderLadders$Clock" "screw" "I", Cond.fieldLink RX0 24 "WinderLadders$Clock" "off" "I", Cond.fieldLink RX0 27 "WinderLadders$Clock" "daysSinceWound" "I", Cond.fieldLink RX0 30 "WinderLadders$Clock" "timesWound" "I", Cond.fieldLink RX0 33 "WinderLadders$Clock" "goes" "Z", Cond.methodLink RX5 61 yX4_addLadder, Cond.instanceMethod yX4_addLadder, Cond.selects RX4 yX4_addLadder yX4_addLadder, Cond.code yX4_addLadder cX4_addLadder 2 (some .int), Cond.static yX5_isWithin, Cond.initialized RX5, Cond.code yX5_isWithin cX5_isWithin 3 (some .boolean), Cond.methodLink RX5 53 yX5_keptIfDone, Cond.instanceMethod yX5_keptIfDone, Cond.selects RX5 yX5_keptIfDone yX5_keptIfDone]
def wsX5_ladder_r3 : List Cond := [Cond.code yX5_keptIfDone cX5_keptIfDone 2 (some .int), Cond.methodLink RX5 209 yX1_keepPrepared, Cond.instanceMethod yX1_keepPrepared, Cond.selects RX1 yX1_keepPrepared yX1_keepPrepared, Cond.code yX1_keepPrepared cX1_keepPrepared 1 none, Cond.methodLink RX1 26 yX1_dropOldest, Cond.instanceMethod yX1_dropOldest, Cond.selects RX1 yX1_dropOldest yX1_dropOldest, Cond.code yX1_dropOldest cX1_dropOldest 3 none]
def wsX5_ladder : List Cond := .code yX5_ladder cX5_ladder 2 (some .int) :: ((wsX5_ladder_r1 ++ (wsX5_ladder_r2 ++ wsX5_ladder_r3)) ++ wsX50 ++ wsX10 ++ wsX40 ++ wsX00)
def wsX5_screw_r1 : List Cond := [Cond.fieldLink RX5 19 "WinderLadders" "history" "LWinderLadders$History;", Cond.fieldLink RX5 12 "WinderLadders" "now" "LWinderLadders$State;", Cond.methodLink RX5 45 yX1_prepare, Cond.instanceMethod yX1_prepare, Cond.selects RX1 yX1_prepare yX1_prepare, Cond.initialized RX1, Cond.code yX1_prepare cX1_prepare 2 none, Cond.fieldLink RX1 11 "WinderLadders$History" "states" "[LWinderLadders$State;", Cond.fieldLink RX1 18 "WinderLadders$History" "depth" "I", Cond.methodLink RX1 22 yX4_copyFrom, Cond.instanceMethod yX4_copyFrom, Cond.selects RX4 yX4_copyFrom yX4_copyFrom, Cond.initialized RX4, Cond.code yX4_copyFrom cX4_copyFrom 3 none, Cond.fieldLink RX4 9 "WinderLadders$State" "settings" "[I", Cond.methodLink RX4 27 arraycopyName, Cond.native arraycopyName, Cond.static arraycopyName, Cond.initialized "java/lang/System", Cond.fieldLink RX4 21 "WinderLadders$State" "ladders" "[I", Cond.fieldLink RX4 34 "WinderLadders$State" "clockCount" "I", Cond.fieldLink RX4 17 "WinderLadders$State" "clocks" "[LWinderLadders$Clock;", Cond.fieldLink RX4 42 "WinderLadders$State" "ladderCount" "I", Cond.fieldLink RX4 45 "WinderLadders$State" "days" "I"]
def wsX5_screw_r2 : List Cond := [Cond.fieldLink RX4 48 "WinderLadders$State" "minutes" "I", Cond.methodLink RX4 38 yX0_copyFrom, Cond.instanceMethod yX0_copyFrom, Cond.selects RX0 yX0_copyFrom yX0_copyFrom, Cond.initialized RX0, Cond.code yX0_copyFrom cX0_copyFrom 2 none, Cond.fieldLink RX0 9 "WinderLadders$Clock" "house" "I", Cond.fieldLink RX0 15 "WinderLadders$Clock" "rungs" "I", Cond.fieldLink RX0 18 "WinderLadders$Clock" "drift" "I", Cond.fieldLink RX0 21 "WinderLadders$Clock" "screw" "I", Cond.fieldLink RX0 24 "WinderLadders$Clock" "off" "I", Cond.fieldLink RX0 27 "WinderLadders$Clock" "daysSinceWound" "I", Cond.fieldLink RX0 30 "WinderLadders$Clock" "timesWound" "I", Cond.fieldLink RX0 33 "WinderLadders$Clock" "goes" "Z", Cond.methodLink RX5 64 yX4_turnScrew, Cond.instanceMethod yX4_turnScrew, Cond.selects RX4 yX4_turnScrew yX4_turnScrew, Cond.code yX4_turnScrew cX4_turnScrew 4 (some .int), Cond.fieldLink RX4 66 "WinderLadders$Clock" "screw" "I", Cond.methodLink RX4 62 yX4_hasClock, Cond.instanceMethod yX4_hasClock, Cond.selects RX4 yX4_hasClock yX4_hasClock, Cond.code yX4_hasClock cX4_hasClock 2 (some .boolean), Cond.static yX5_isWithin]
def wsX5_screw_r3 : List Cond := [Cond.initialized RX5, Cond.code yX5_isWithin cX5_isWithin 3 (some .boolean), Cond.methodLink RX5 53 yX5_keptIfDone, Cond.instanceMethod yX5_keptIfDone, Cond.selects RX5 yX5_keptIfDone yX5_keptIfDone, Cond.code yX5_keptIfDone cX5_keptIfDone 2 (some .int), Cond.methodLink RX5 209 yX1_keepPrepared, Cond.instanceMethod yX1_keepPrepared, Cond.selects RX1 yX1_keepPrepared yX1_keepPrepared, Cond.code yX1_keepPrepared cX1_keepPrepared 1 none, Cond.methodLink RX1 26 yX1_dropOldest, Cond.instanceMethod yX1_dropOldest, Cond.selects RX1 yX1_dropOldest yX1_dropOldest, Cond.code yX1_dropOldest cX1_dropOldest 3 none]
def wsX5_screw : List Cond := .code yX5_screw cX5_screw 3 (some .int) :: ((wsX5_screw_r1 ++ (wsX5_screw_r2 ++ wsX5_screw_r3)) ++ wsX50 ++ wsX10 ++ wsX40 ++ wsX00)
def wsX5_chooseRow : List Cond := .code yX5_chooseRow cX5_chooseRow 3 (some .int) :: ([.fieldLink RX5 41 "WinderLadders" "row" "LWinderLadders$Row;", .fieldLink RX5 12 "WinderLadders" "now" "LWinderLadders$State;", .fieldLink RX5 141 "WinderLadders$State" "clockCount" "I", .fieldLink RX5 218 "WinderLadders$Row" "length" "I", .methodLink RX5 212 yX3_clear, .instanceMethod yX3_clear, .selects RX3 yX3_clear yX3_clear, .initialized RX3, .code yX3_clear cX3_clear 1 none, .fieldLink RX3 15 "WinderLadders$Row" "length" "I", .methodLink RX5 215 yX3_add, .instanceMethod yX3_add, .selects RX3 yX3_add yX3_add, .code yX3_add cX3_add 2 (some .boolean), .fieldLink RX3 9 "WinderLadders$Row" "numbers" "[I"] ++ wsX50 ++ wsX40 ++ wsX30)
def wsX5_round_r1 : List Cond := [Cond.fieldLink RX5 19 "WinderLadders" "history" "LWinderLadders$History;", Cond.fieldLink RX5 12 "WinderLadders" "now" "LWinderLadders$State;", Cond.fieldLink RX5 41 "WinderLadders" "row" "LWinderLadders$Row;", Cond.methodLink RX5 67 yX5_chooseRow, Cond.instanceMethod yX5_chooseRow, Cond.selects RX5 yX5_chooseRow yX5_chooseRow, Cond.initialized RX5, Cond.code yX5_chooseRow cX5_chooseRow 3 (some .int), Cond.fieldLink RX5 141 "WinderLadders$State" "clockCount" "I", Cond.fieldLink RX5 218 "WinderLadders$Row" "length" "I", Cond.methodLink RX5 212 yX3_clear, Cond.instanceMethod yX3_clear, Cond.selects RX3 yX3_clear yX3_clear, Cond.initialized RX3, Cond.code yX3_clear cX3_clear 1 none, Cond.fieldLink RX3 15 "WinderLadders$Row" "length" "I", Cond.methodLink RX5 215 yX3_add, Cond.instanceMethod yX3_add, Cond.selects RX3 yX3_add yX3_add, Cond.code yX3_add cX3_add 2 (some .boolean), Cond.fieldLink RX3 9 "WinderLadders$Row" "numbers" "[I", Cond.methodLink RX5 45 yX1_prepare, Cond.instanceMethod yX1_prepare, Cond.selects RX1 yX1_prepare yX1_prepare]
def wsX5_round_r2 : List Cond := [Cond.initialized RX1, Cond.code yX1_prepare cX1_prepare 2 none, Cond.fieldLink RX1 11 "WinderLadders$History" "states" "[LWinderLadders$State;", Cond.fieldLink RX1 18 "WinderLadders$History" "depth" "I", Cond.methodLink RX1 22 yX4_copyFrom, Cond.instanceMethod yX4_copyFrom, Cond.selects RX4 yX4_copyFrom yX4_copyFrom, Cond.initialized RX4, Cond.code yX4_copyFrom cX4_copyFrom 3 none, Cond.fieldLink RX4 9 "WinderLadders$State" "settings" "[I", Cond.methodLink RX4 27 arraycopyName, Cond.native arraycopyName, Cond.static arraycopyName, Cond.initialized "java/lang/System", Cond.fieldLink RX4 21 "WinderLadders$State" "ladders" "[I", Cond.fieldLink RX4 34 "WinderLadders$State" "clockCount" "I", Cond.fieldLink RX4 17 "WinderLadders$State" "clocks" "[LWinderLadders$Clock;", Cond.fieldLink RX4 42 "WinderLadders$State" "ladderCount" "I", Cond.fieldLink RX4 45 "WinderLadders$State" "days" "I", Cond.fieldLink RX4 48 "WinderLadders$State" "minutes" "I", Cond.methodLink RX4 38 yX0_copyFrom, Cond.instanceMethod yX0_copyFrom, Cond.selects RX0 yX0_copyFrom yX0_copyFrom, Cond.initialized RX0]
def wsX5_round_r3 : List Cond := [Cond.code yX0_copyFrom cX0_copyFrom 2 none, Cond.fieldLink RX0 9 "WinderLadders$Clock" "house" "I", Cond.fieldLink RX0 15 "WinderLadders$Clock" "rungs" "I", Cond.fieldLink RX0 18 "WinderLadders$Clock" "drift" "I", Cond.fieldLink RX0 21 "WinderLadders$Clock" "screw" "I", Cond.fieldLink RX0 24 "WinderLadders$Clock" "off" "I", Cond.fieldLink RX0 27 "WinderLadders$Clock" "daysSinceWound" "I", Cond.fieldLink RX0 30 "WinderLadders$Clock" "timesWound" "I", Cond.fieldLink RX0 33 "WinderLadders$Clock" "goes" "Z", Cond.methodLink RX5 70 yX4_walkBeat, Cond.instanceMethod yX4_walkBeat, Cond.selects RX4 yX4_walkBeat yX4_walkBeat, Cond.code yX4_walkBeat cX4_walkBeat 5 (some .int), Cond.fieldLink RX4 88 "WinderLadders$Row" "length" "I", Cond.methodLink RX4 84 yX4_minutesOf, Cond.instanceMethod yX4_minutesOf, Cond.selects RX4 yX4_minutesOf yX4_minutesOf, Cond.code yX4_minutesOf cX4_minutesOf 10 (some .int), Cond.fieldLink RX4 104 "WinderLadders$Clock" "house" "I", Cond.methodLink RX4 107 Lib.Math.abs.name, Cond.static Lib.Math.abs.name, Cond.initialized "java/lang/Math", Cond.code Lib.Math.abs.name Lib.Math.abs.code 1 (some .int), Cond.methodLink RX4 93 yX3_at]
def wsX5_round_r4 : List Cond := [Cond.instanceMethod yX3_at, Cond.selects RX3 yX3_at yX3_at, Cond.code yX3_at cX3_at 2 (some .int), Cond.methodLink RX4 62 yX4_hasClock, Cond.instanceMethod yX4_hasClock, Cond.selects RX4 yX4_hasClock yX4_hasClock, Cond.code yX4_hasClock cX4_hasClock 2 (some .boolean), Cond.methodLink RX4 112 yX4_ladderNeeded, Cond.instanceMethod yX4_ladderNeeded, Cond.selects RX4 yX4_ladderNeeded yX4_ladderNeeded, Cond.code yX4_ladderNeeded cX4_ladderNeeded 5 (some .int), Cond.fieldLink RX4 116 "WinderLadders$Clock" "rungs" "I", Cond.methodLink RX4 97 yX4_canBeWound, Cond.instanceMethod yX4_canBeWound, Cond.selects RX4 yX4_canBeWound yX4_canBeWound, Cond.code yX4_canBeWound cX4_canBeWound 2 (some .boolean), Cond.methodLink RX4 101 yX0_windAndSet, Cond.instanceMethod yX0_windAndSet, Cond.selects RX0 yX0_windAndSet yX0_windAndSet, Cond.code yX0_windAndSet cX0_windAndSet 2 none, Cond.methodLink RX0 48 yX0_isOffBeyond, Cond.instanceMethod yX0_isOffBeyond, Cond.selects RX0 yX0_isOffBeyond yX0_isOffBeyond, Cond.code yX0_isOffBeyond cX0_isOffBeyond 2 (some .boolean)]
def wsX5_round_r5 : List Cond := [Cond.methodLink RX0 37 Lib.Math.abs.name, Cond.methodLink RX0 52 yX0_turnByRule, Cond.instanceMethod yX0_turnByRule, Cond.selects RX0 yX0_turnByRule yX0_turnByRule, Cond.code yX0_turnByRule cX0_turnByRule 2 none, Cond.methodLink RX0 43 yX0_driftWithScrew, Cond.instanceMethod yX0_driftWithScrew, Cond.selects RX0 yX0_driftWithScrew yX0_driftWithScrew, Cond.code yX0_driftWithScrew cX0_driftWithScrew 1 (some .int), Cond.methodLink RX5 53 yX5_keptIfDone, Cond.instanceMethod yX5_keptIfDone, Cond.selects RX5 yX5_keptIfDone yX5_keptIfDone, Cond.code yX5_keptIfDone cX5_keptIfDone 2 (some .int), Cond.methodLink RX5 209 yX1_keepPrepared, Cond.instanceMethod yX1_keepPrepared, Cond.selects RX1 yX1_keepPrepared yX1_keepPrepared, Cond.code yX1_keepPrepared cX1_keepPrepared 1 none, Cond.methodLink RX1 26 yX1_dropOldest, Cond.instanceMethod yX1_dropOldest, Cond.selects RX1 yX1_dropOldest yX1_dropOldest, Cond.code yX1_dropOldest cX1_dropOldest 3 none]
def wsX5_round : List Cond := .code yX5_round cX5_round 3 (some .int) :: ((wsX5_round_r1 ++ (wsX5_round_r2 ++ (wsX5_round_r3 ++ (wsX5_round_r4 ++ wsX5_round_r5)))) ++ wsX50 ++ wsX40 ++ wsX30 ++ wsX10 ++ wsX00)
def wsX5_pass_r1 : List Cond := [Cond.fieldLink RX5 19 "WinderLadders" "history" "LWinderLadders$History;", Cond.fieldLink RX5 12 "WinderLadders" "now" "LWinderLadders$State;", Cond.methodLink RX5 45 yX1_prepare, Cond.instanceMethod yX1_prepare, Cond.selects RX1 yX1_prepare yX1_prepare, Cond.initialized RX1, Cond.code yX1_prepare cX1_prepare 2 none, Cond.fieldLink RX1 11 "WinderLadders$History" "states" "[LWinderLadders$State;", Cond.fieldLink RX1 18 "WinderLadders$History" "depth" "I", Cond.methodLink RX1 22 yX4_copyFrom, Cond.instanceMethod yX4_copyFrom, Cond.selects RX4 yX4_copyFrom yX4_copyFrom, Cond.initialized RX4, Cond.code yX4_copyFrom cX4_copyFrom 3 none, Cond.fieldLink RX4 9 "WinderLadders$State" "settings" "[I", Cond.methodLink RX4 27 arraycopyName, Cond.native arraycopyName, Cond.static arraycopyName, Cond.initialized "java/lang/System", Cond.fieldLink RX4 21 "WinderLadders$State" "ladders" "[I", Cond.fieldLink RX4 34 "WinderLadders$State" "clockCount" "I", Cond.fieldLink RX4 17 "WinderLadders$State" "clocks" "[LWinderLadders$Clock;", Cond.fieldLink RX4 42 "WinderLadders$State" "ladderCount" "I", Cond.fieldLink RX4 45 "WinderLadders$State" "days" "I"]
def wsX5_pass_r2 : List Cond := [Cond.fieldLink RX4 48 "WinderLadders$State" "minutes" "I", Cond.methodLink RX4 38 yX0_copyFrom, Cond.instanceMethod yX0_copyFrom, Cond.selects RX0 yX0_copyFrom yX0_copyFrom, Cond.initialized RX0, Cond.code yX0_copyFrom cX0_copyFrom 2 none, Cond.fieldLink RX0 9 "WinderLadders$Clock" "house" "I", Cond.fieldLink RX0 15 "WinderLadders$Clock" "rungs" "I", Cond.fieldLink RX0 18 "WinderLadders$Clock" "drift" "I", Cond.fieldLink RX0 21 "WinderLadders$Clock" "screw" "I", Cond.fieldLink RX0 24 "WinderLadders$Clock" "off" "I", Cond.fieldLink RX0 27 "WinderLadders$Clock" "daysSinceWound" "I", Cond.fieldLink RX0 30 "WinderLadders$Clock" "timesWound" "I", Cond.fieldLink RX0 33 "WinderLadders$Clock" "goes" "Z", Cond.methodLink RX5 74 yX4_passDays, Cond.instanceMethod yX4_passDays, Cond.selects RX4 yX4_passDays yX4_passDays, Cond.code yX4_passDays cX4_passDays 4 (some .int), Cond.static yX5_isWithin, Cond.initialized RX5, Cond.code yX5_isWithin cX5_isWithin 3 (some .boolean), Cond.methodLink RX4 69 yX0_passDay, Cond.instanceMethod yX0_passDay, Cond.selects RX0 yX0_passDay yX0_passDay]
def wsX5_pass_r3 : List Cond := [Cond.code yX0_passDay cX0_passDay 2 none, Cond.constant RX0 47 (43200), Cond.methodLink RX0 43 yX0_driftWithScrew, Cond.instanceMethod yX0_driftWithScrew, Cond.selects RX0 yX0_driftWithScrew yX0_driftWithScrew, Cond.code yX0_driftWithScrew cX0_driftWithScrew 1 (some .int), Cond.methodLink RX4 73 yX4_numberThatGo, Cond.instanceMethod yX4_numberThatGo, Cond.selects RX4 yX4_numberThatGo yX4_numberThatGo, Cond.code yX4_numberThatGo cX4_numberThatGo 3 (some .int), Cond.fieldLink RX4 77 "WinderLadders$Clock" "goes" "Z", Cond.methodLink RX5 53 yX5_keptIfDone, Cond.instanceMethod yX5_keptIfDone, Cond.selects RX5 yX5_keptIfDone yX5_keptIfDone, Cond.code yX5_keptIfDone cX5_keptIfDone 2 (some .int), Cond.methodLink RX5 209 yX1_keepPrepared, Cond.instanceMethod yX1_keepPrepared, Cond.selects RX1 yX1_keepPrepared yX1_keepPrepared, Cond.code yX1_keepPrepared cX1_keepPrepared 1 none, Cond.methodLink RX1 26 yX1_dropOldest, Cond.instanceMethod yX1_dropOldest, Cond.selects RX1 yX1_dropOldest yX1_dropOldest, Cond.code yX1_dropOldest cX1_dropOldest 3 none]
def wsX5_pass : List Cond := .code yX5_pass cX5_pass 2 (some .int) :: ((wsX5_pass_r1 ++ (wsX5_pass_r2 ++ wsX5_pass_r3)) ++ wsX50 ++ wsX10 ++ wsX40 ++ wsX00)
def wsX5_change_r1 : List Cond := [Cond.fieldLink RX5 19 "WinderLadders" "history" "LWinderLadders$History;", Cond.fieldLink RX5 12 "WinderLadders" "now" "LWinderLadders$State;", Cond.methodLink RX5 45 yX1_prepare, Cond.instanceMethod yX1_prepare, Cond.selects RX1 yX1_prepare yX1_prepare, Cond.initialized RX1, Cond.code yX1_prepare cX1_prepare 2 none, Cond.fieldLink RX1 11 "WinderLadders$History" "states" "[LWinderLadders$State;", Cond.fieldLink RX1 18 "WinderLadders$History" "depth" "I", Cond.methodLink RX1 22 yX4_copyFrom, Cond.instanceMethod yX4_copyFrom, Cond.selects RX4 yX4_copyFrom yX4_copyFrom, Cond.initialized RX4, Cond.code yX4_copyFrom cX4_copyFrom 3 none, Cond.fieldLink RX4 9 "WinderLadders$State" "settings" "[I", Cond.methodLink RX4 27 arraycopyName, Cond.native arraycopyName, Cond.static arraycopyName, Cond.initialized "java/lang/System", Cond.fieldLink RX4 21 "WinderLadders$State" "ladders" "[I", Cond.fieldLink RX4 34 "WinderLadders$State" "clockCount" "I", Cond.fieldLink RX4 17 "WinderLadders$State" "clocks" "[LWinderLadders$Clock;", Cond.fieldLink RX4 42 "WinderLadders$State" "ladderCount" "I", Cond.fieldLink RX4 45 "WinderLadders$State" "days" "I"]
def wsX5_change_r2 : List Cond := [Cond.fieldLink RX4 48 "WinderLadders$State" "minutes" "I", Cond.methodLink RX4 38 yX0_copyFrom, Cond.instanceMethod yX0_copyFrom, Cond.selects RX0 yX0_copyFrom yX0_copyFrom, Cond.initialized RX0, Cond.code yX0_copyFrom cX0_copyFrom 2 none, Cond.fieldLink RX0 9 "WinderLadders$Clock" "house" "I", Cond.fieldLink RX0 15 "WinderLadders$Clock" "rungs" "I", Cond.fieldLink RX0 18 "WinderLadders$Clock" "drift" "I", Cond.fieldLink RX0 21 "WinderLadders$Clock" "screw" "I", Cond.fieldLink RX0 24 "WinderLadders$Clock" "off" "I", Cond.fieldLink RX0 27 "WinderLadders$Clock" "daysSinceWound" "I", Cond.fieldLink RX0 30 "WinderLadders$Clock" "timesWound" "I", Cond.fieldLink RX0 33 "WinderLadders$Clock" "goes" "Z", Cond.methodLink RX5 77 yX4_changeClocks, Cond.instanceMethod yX4_changeClocks, Cond.selects RX4 yX4_changeClocks yX4_changeClocks, Cond.code yX4_changeClocks cX4_changeClocks 4 (some .int), Cond.fieldLink RX4 77 "WinderLadders$Clock" "goes" "Z", Cond.fieldLink RX4 81 "WinderLadders$Clock" "off" "I", Cond.methodLink RX4 73 yX4_numberThatGo, Cond.instanceMethod yX4_numberThatGo, Cond.selects RX4 yX4_numberThatGo yX4_numberThatGo, Cond.code yX4_numberThatGo cX4_numberThatGo 3 (some .int)]
def wsX5_change_r3 : List Cond := [Cond.methodLink RX5 53 yX5_keptIfDone, Cond.instanceMethod yX5_keptIfDone, Cond.selects RX5 yX5_keptIfDone yX5_keptIfDone, Cond.initialized RX5, Cond.code yX5_keptIfDone cX5_keptIfDone 2 (some .int), Cond.methodLink RX5 209 yX1_keepPrepared, Cond.instanceMethod yX1_keepPrepared, Cond.selects RX1 yX1_keepPrepared yX1_keepPrepared, Cond.code yX1_keepPrepared cX1_keepPrepared 1 none, Cond.methodLink RX1 26 yX1_dropOldest, Cond.instanceMethod yX1_dropOldest, Cond.selects RX1 yX1_dropOldest yX1_dropOldest, Cond.code yX1_dropOldest cX1_dropOldest 3 none]
def wsX5_change : List Cond := .code yX5_change cX5_change 2 (some .int) :: ((wsX5_change_r1 ++ (wsX5_change_r2 ++ wsX5_change_r3)) ++ wsX50 ++ wsX10 ++ wsX40 ++ wsX00)
def wsX5_of_r1 : List Cond := [Cond.fieldLink RX5 12 "WinderLadders" "now" "LWinderLadders$State;", Cond.fieldLink RX5 84 "WinderLadders$State" "clocks" "[LWinderLadders$Clock;", Cond.fieldLink RX5 88 "WinderLadders$Clock" "house" "I", Cond.fieldLink RX5 94 "WinderLadders$Clock" "rungs" "I", Cond.fieldLink RX5 97 "WinderLadders$Clock" "drift" "I", Cond.fieldLink RX5 100 "WinderLadders$Clock" "screw" "I", Cond.fieldLink RX5 103 "WinderLadders$Clock" "off" "I", Cond.constant RX5 106 (1000000000), Cond.fieldLink RX5 107 "WinderLadders$Clock" "daysSinceWound" "I", Cond.fieldLink RX5 110 "WinderLadders$Clock" "goes" "Z", Cond.fieldLink RX5 114 "WinderLadders$State" "settings" "[I", Cond.fieldLink RX5 129 "WinderLadders$Clock" "timesWound" "I", Cond.methodLink RX5 80 yX4_hasClock, Cond.instanceMethod yX4_hasClock, Cond.selects RX4 yX4_hasClock yX4_hasClock, Cond.initialized RX4, Cond.code yX4_hasClock cX4_hasClock 2 (some .boolean), Cond.fieldLink RX4 34 "WinderLadders$State" "clockCount" "I", Cond.methodLink RX5 118 yX0_isOffBeyond, Cond.instanceMethod yX0_isOffBeyond, Cond.selects RX0 yX0_isOffBeyond yX0_isOffBeyond, Cond.initialized RX0, Cond.code yX0_isOffBeyond cX0_isOffBeyond 2 (some .boolean), Cond.fieldLink RX0 24 "WinderLadders$Clock" "off" "I"]
def wsX5_of_r2 : List Cond := [Cond.methodLink RX0 37 Lib.Math.abs.name, Cond.static Lib.Math.abs.name, Cond.initialized "java/lang/Math", Cond.code Lib.Math.abs.name Lib.Math.abs.code 1 (some .int), Cond.methodLink RX5 121 yX4_ladderNeeded, Cond.instanceMethod yX4_ladderNeeded, Cond.selects RX4 yX4_ladderNeeded yX4_ladderNeeded, Cond.code yX4_ladderNeeded cX4_ladderNeeded 5 (some .int), Cond.fieldLink RX4 116 "WinderLadders$Clock" "rungs" "I", Cond.fieldLink RX4 42 "WinderLadders$State" "ladderCount" "I", Cond.fieldLink RX4 21 "WinderLadders$State" "ladders" "[I", Cond.methodLink RX5 125 yX4_canBeWound, Cond.instanceMethod yX4_canBeWound, Cond.selects RX4 yX4_canBeWound yX4_canBeWound, Cond.code yX4_canBeWound cX4_canBeWound 2 (some .boolean), Cond.methodLink RX4 112 yX4_ladderNeeded]
def wsX5_of : List Cond := .code yX5_of cX5_of 4 (some .int) :: ((wsX5_of_r1 ++ wsX5_of_r2) ++ wsX50 ++ wsX40 ++ wsX00)
def wsX5_ofLadder : List Cond := .code yX5_ofLadder cX5_ofLadder 2 (some .int) :: ([.fieldLink RX5 12 "WinderLadders" "now" "LWinderLadders$State;", .fieldLink RX5 135 "WinderLadders$State" "ladders" "[I", .methodLink RX5 132 yX4_hasLadder, .instanceMethod yX4_hasLadder, .selects RX4 yX4_hasLadder yX4_hasLadder, .initialized RX4, .code yX4_hasLadder cX4_hasLadder 2 (some .boolean), .fieldLink RX4 42 "WinderLadders$State" "ladderCount" "I"] ++ wsX50 ++ wsX40)
def wsX5_count_r1 : List Cond := [Cond.fieldLink RX5 12 "WinderLadders" "now" "LWinderLadders$State;", Cond.fieldLink RX5 138 "WinderLadders$State" "days" "I", Cond.fieldLink RX5 141 "WinderLadders$State" "clockCount" "I", Cond.fieldLink RX5 144 "WinderLadders$State" "ladderCount" "I", Cond.fieldLink RX5 157 "WinderLadders$State" "minutes" "I", Cond.fieldLink RX5 114 "WinderLadders$State" "settings" "[I", Cond.fieldLink RX5 34 "WinderLadders" "pad" "LWinderLadders$Pad;", Cond.fieldLink RX5 163 "WinderLadders$Pad" "length" "I", Cond.fieldLink RX5 19 "WinderLadders" "history" "LWinderLadders$History;", Cond.fieldLink RX5 166 "WinderLadders$History" "depth" "I", Cond.methodLink RX5 147 yX4_setOfStill, Cond.instanceMethod yX4_setOfStill, Cond.selects RX4 yX4_setOfStill yX4_setOfStill, Cond.initialized RX4, Cond.code yX4_setOfStill cX4_setOfStill 3 (some .int), Cond.fieldLink RX4 34 "WinderLadders$State" "clockCount" "I", Cond.fieldLink RX4 17 "WinderLadders$State" "clocks" "[LWinderLadders$Clock;", Cond.fieldLink RX4 77 "WinderLadders$Clock" "goes" "Z", Cond.methodLink RX5 151 yX4_numberOffBeyondTold, Cond.instanceMethod yX4_numberOffBeyondTold, Cond.selects RX4 yX4_numberOffBeyondTold yX4_numberOffBeyondTold, Cond.code yX4_numberOffBeyondTold cX4_numberOffBeyondTold 3 (some .int), Cond.fieldLink RX4 9 "WinderLadders$State" "settings" "[I", Cond.methodLink RX4 119 yX0_isOffBeyond]
def wsX5_count_r2 : List Cond := [Cond.instanceMethod yX0_isOffBeyond, Cond.selects RX0 yX0_isOffBeyond yX0_isOffBeyond, Cond.initialized RX0, Cond.code yX0_isOffBeyond cX0_isOffBeyond 2 (some .boolean), Cond.fieldLink RX0 24 "WinderLadders$Clock" "off" "I", Cond.methodLink RX0 37 Lib.Math.abs.name, Cond.static Lib.Math.abs.name, Cond.initialized "java/lang/Math", Cond.code Lib.Math.abs.name Lib.Math.abs.code 1 (some .int), Cond.methodLink RX5 154 yX4_numberThatCannotBeWound, Cond.instanceMethod yX4_numberThatCannotBeWound, Cond.selects RX4 yX4_numberThatCannotBeWound yX4_numberThatCannotBeWound, Cond.code yX4_numberThatCannotBeWound cX4_numberThatCannotBeWound 3 (some .int), Cond.methodLink RX4 97 yX4_canBeWound, Cond.instanceMethod yX4_canBeWound, Cond.selects RX4 yX4_canBeWound yX4_canBeWound, Cond.code yX4_canBeWound cX4_canBeWound 2 (some .boolean), Cond.fieldLink RX4 116 "WinderLadders$Clock" "rungs" "I", Cond.methodLink RX4 112 yX4_ladderNeeded, Cond.instanceMethod yX4_ladderNeeded, Cond.selects RX4 yX4_ladderNeeded yX4_ladderNeeded, Cond.code yX4_ladderNeeded cX4_ladderNeeded 5 (some .int), Cond.fieldLink RX4 42 "WinderLadders$State" "ladderCount" "I", Cond.fieldLink RX4 21 "WinderLadders$State" "ladders" "[I"]
def wsX5_count_r3 : List Cond := [Cond.methodLink RX5 160 yX4_timesWoundInAll, Cond.instanceMethod yX4_timesWoundInAll, Cond.selects RX4 yX4_timesWoundInAll yX4_timesWoundInAll, Cond.code yX4_timesWoundInAll cX4_timesWoundInAll 3 (some .int), Cond.fieldLink RX4 122 "WinderLadders$Clock" "timesWound" "I"]
def wsX5_count : List Cond := .code yX5_count cX5_count 2 (some .int) :: ((wsX5_count_r1 ++ (wsX5_count_r2 ++ wsX5_count_r3)) ++ wsX50 ++ wsX40 ++ wsX20 ++ wsX10 ++ wsX00)
def wsX5_takes_r1 : List Cond := [Cond.fieldLink RX5 12 "WinderLadders" "now" "LWinderLadders$State;", Cond.fieldLink RX5 41 "WinderLadders" "row" "LWinderLadders$Row;", Cond.methodLink RX5 67 yX5_chooseRow, Cond.instanceMethod yX5_chooseRow, Cond.selects RX5 yX5_chooseRow yX5_chooseRow, Cond.initialized RX5, Cond.code yX5_chooseRow cX5_chooseRow 3 (some .int), Cond.fieldLink RX5 141 "WinderLadders$State" "clockCount" "I", Cond.fieldLink RX5 218 "WinderLadders$Row" "length" "I", Cond.methodLink RX5 212 yX3_clear, Cond.instanceMethod yX3_clear, Cond.selects RX3 yX3_clear yX3_clear, Cond.initialized RX3, Cond.code yX3_clear cX3_clear 1 none, Cond.fieldLink RX3 15 "WinderLadders$Row" "length" "I", Cond.methodLink RX5 215 yX3_add, Cond.instanceMethod yX3_add, Cond.selects RX3 yX3_add yX3_add, Cond.code yX3_add cX3_add 2 (some .boolean), Cond.fieldLink RX3 9 "WinderLadders$Row" "numbers" "[I", Cond.methodLink RX5 169 yX4_minutesOf, Cond.instanceMethod yX4_minutesOf, Cond.selects RX4 yX4_minutesOf yX4_minutesOf, Cond.initialized RX4]
def wsX5_takes_r2 : List Cond := [Cond.code yX4_minutesOf cX4_minutesOf 10 (some .int), Cond.fieldLink RX4 88 "WinderLadders$Row" "length" "I", Cond.fieldLink RX4 17 "WinderLadders$State" "clocks" "[LWinderLadders$Clock;", Cond.fieldLink RX4 104 "WinderLadders$Clock" "house" "I", Cond.methodLink RX4 107 Lib.Math.abs.name, Cond.static Lib.Math.abs.name, Cond.initialized "java/lang/Math", Cond.code Lib.Math.abs.name Lib.Math.abs.code 1 (some .int), Cond.fieldLink RX4 9 "WinderLadders$State" "settings" "[I", Cond.methodLink RX4 93 yX3_at, Cond.instanceMethod yX3_at, Cond.selects RX3 yX3_at yX3_at, Cond.code yX3_at cX3_at 2 (some .int), Cond.methodLink RX4 62 yX4_hasClock, Cond.instanceMethod yX4_hasClock, Cond.selects RX4 yX4_hasClock yX4_hasClock, Cond.code yX4_hasClock cX4_hasClock 2 (some .boolean), Cond.fieldLink RX4 34 "WinderLadders$State" "clockCount" "I", Cond.methodLink RX4 112 yX4_ladderNeeded, Cond.instanceMethod yX4_ladderNeeded, Cond.selects RX4 yX4_ladderNeeded yX4_ladderNeeded, Cond.code yX4_ladderNeeded cX4_ladderNeeded 5 (some .int), Cond.fieldLink RX4 116 "WinderLadders$Clock" "rungs" "I", Cond.fieldLink RX4 42 "WinderLadders$State" "ladderCount" "I"]
def wsX5_takes_r3 : List Cond := [Cond.fieldLink RX4 21 "WinderLadders$State" "ladders" "[I", Cond.methodLink RX4 97 yX4_canBeWound, Cond.instanceMethod yX4_canBeWound, Cond.selects RX4 yX4_canBeWound yX4_canBeWound, Cond.code yX4_canBeWound cX4_canBeWound 2 (some .boolean)]
def wsX5_takes : List Cond := .code yX5_takes cX5_takes 3 (some .int) :: ((wsX5_takes_r1 ++ (wsX5_takes_r2 ++ wsX5_takes_r3)) ++ wsX50 ++ wsX40 ++ wsX30 ++ wsX00)
def wsX5_lasts_r1 : List Cond := [Cond.fieldLink RX5 12 "WinderLadders" "now" "LWinderLadders$State;", Cond.methodLink RX5 80 yX4_hasClock, Cond.instanceMethod yX4_hasClock, Cond.selects RX4 yX4_hasClock yX4_hasClock, Cond.initialized RX4, Cond.code yX4_hasClock cX4_hasClock 2 (some .boolean), Cond.fieldLink RX4 34 "WinderLadders$State" "clockCount" "I", Cond.methodLink RX5 172 yX4_daysUntilOff, Cond.instanceMethod yX4_daysUntilOff, Cond.selects RX4 yX4_daysUntilOff yX4_daysUntilOff, Cond.code yX4_daysUntilOff cX4_daysUntilOff 2 (some .int), Cond.fieldLink RX4 17 "WinderLadders$State" "clocks" "[LWinderLadders$Clock;", Cond.fieldLink RX4 9 "WinderLadders$State" "settings" "[I", Cond.methodLink RX4 62 yX4_hasClock, Cond.methodLink RX4 129 yX0_daysUntilOff, Cond.instanceMethod yX0_daysUntilOff, Cond.selects RX0 yX0_daysUntilOff yX0_daysUntilOff, Cond.initialized RX0, Cond.code yX0_daysUntilOff cX0_daysUntilOff 5 (some .int), Cond.fieldLink RX0 27 "WinderLadders$Clock" "daysSinceWound" "I", Cond.methodLink RX0 55 Lib.Math.max.name, Cond.static Lib.Math.max.name, Cond.initialized "java/lang/Math", Cond.code Lib.Math.max.name Lib.Math.max.code 2 (some .int)]
def wsX5_lasts_r2 : List Cond := [Cond.fieldLink RX0 24 "WinderLadders$Clock" "off" "I", Cond.methodLink RX0 37 Lib.Math.abs.name, Cond.static Lib.Math.abs.name, Cond.code Lib.Math.abs.name Lib.Math.abs.code 1 (some .int), Cond.methodLink RX0 48 yX0_isOffBeyond, Cond.instanceMethod yX0_isOffBeyond, Cond.selects RX0 yX0_isOffBeyond yX0_isOffBeyond, Cond.code yX0_isOffBeyond cX0_isOffBeyond 2 (some .boolean), Cond.methodLink RX0 43 yX0_driftWithScrew, Cond.instanceMethod yX0_driftWithScrew, Cond.selects RX0 yX0_driftWithScrew yX0_driftWithScrew, Cond.code yX0_driftWithScrew cX0_driftWithScrew 1 (some .int), Cond.fieldLink RX0 18 "WinderLadders$Clock" "drift" "I", Cond.fieldLink RX0 21 "WinderLadders$Clock" "screw" "I"]
def wsX5_lasts : List Cond := .code yX5_lasts cX5_lasts 2 (some .int) :: ((wsX5_lasts_r1 ++ wsX5_lasts_r2) ++ wsX50 ++ wsX40 ++ wsX00)
def wsX5_needs_r1 : List Cond := [Cond.fieldLink RX5 12 "WinderLadders" "now" "LWinderLadders$State;", Cond.fieldLink RX5 141 "WinderLadders$State" "clockCount" "I", Cond.methodLink RX5 175 yX4_rankOf, Cond.instanceMethod yX4_rankOf, Cond.selects RX4 yX4_rankOf yX4_rankOf, Cond.initialized RX4, Cond.code yX4_rankOf cX4_rankOf 6 (some .int), Cond.fieldLink RX4 34 "WinderLadders$State" "clockCount" "I", Cond.methodLink RX4 132 yX4_daysUntilOff, Cond.instanceMethod yX4_daysUntilOff, Cond.selects RX4 yX4_daysUntilOff yX4_daysUntilOff, Cond.code yX4_daysUntilOff cX4_daysUntilOff 2 (some .int), Cond.fieldLink RX4 17 "WinderLadders$State" "clocks" "[LWinderLadders$Clock;", Cond.fieldLink RX4 9 "WinderLadders$State" "settings" "[I", Cond.methodLink RX4 62 yX4_hasClock, Cond.instanceMethod yX4_hasClock, Cond.selects RX4 yX4_hasClock yX4_hasClock, Cond.code yX4_hasClock cX4_hasClock 2 (some .boolean), Cond.methodLink RX4 129 yX0_daysUntilOff, Cond.instanceMethod yX0_daysUntilOff, Cond.selects RX0 yX0_daysUntilOff yX0_daysUntilOff, Cond.initialized RX0, Cond.code yX0_daysUntilOff cX0_daysUntilOff 5 (some .int), Cond.fieldLink RX0 27 "WinderLadders$Clock" "daysSinceWound" "I"]
def wsX5_needs_r2 : List Cond := [Cond.methodLink RX0 55 Lib.Math.max.name, Cond.static Lib.Math.max.name, Cond.initialized "java/lang/Math", Cond.code Lib.Math.max.name Lib.Math.max.code 2 (some .int), Cond.fieldLink RX0 24 "WinderLadders$Clock" "off" "I", Cond.methodLink RX0 37 Lib.Math.abs.name, Cond.static Lib.Math.abs.name, Cond.code Lib.Math.abs.name Lib.Math.abs.code 1 (some .int), Cond.methodLink RX0 48 yX0_isOffBeyond, Cond.instanceMethod yX0_isOffBeyond, Cond.selects RX0 yX0_isOffBeyond yX0_isOffBeyond, Cond.code yX0_isOffBeyond cX0_isOffBeyond 2 (some .boolean), Cond.methodLink RX0 43 yX0_driftWithScrew, Cond.instanceMethod yX0_driftWithScrew, Cond.selects RX0 yX0_driftWithScrew yX0_driftWithScrew, Cond.code yX0_driftWithScrew cX0_driftWithScrew 1 (some .int), Cond.fieldLink RX0 18 "WinderLadders$Clock" "drift" "I", Cond.fieldLink RX0 21 "WinderLadders$Clock" "screw" "I"]
def wsX5_needs : List Cond := .code yX5_needs cX5_needs 3 (some .int) :: ((wsX5_needs_r1 ++ wsX5_needs_r2) ++ wsX50 ++ wsX40 ++ wsX00)
def wsX5_ladderFor : List Cond := .code yX5_ladderFor cX5_ladderFor 2 (some .int) :: ([.fieldLink RX5 12 "WinderLadders" "now" "LWinderLadders$State;", .fieldLink RX5 144 "WinderLadders$State" "ladderCount" "I", .methodLink RX5 178 yX4_rungsOutOfReach, .instanceMethod yX4_rungsOutOfReach, .selects RX4 yX4_rungsOutOfReach yX4_rungsOutOfReach, .initialized RX4, .code yX4_rungsOutOfReach cX4_rungsOutOfReach 3 (some .int), .fieldLink RX4 34 "WinderLadders$State" "clockCount" "I", .fieldLink RX4 17 "WinderLadders$State" "clocks" "[LWinderLadders$Clock;", .fieldLink RX4 116 "WinderLadders$Clock" "rungs" "I", .methodLink RX4 125 Lib.Math.max.name, .static Lib.Math.max.name, .initialized "java/lang/Math", .code Lib.Math.max.name Lib.Math.max.code 2 (some .int), .methodLink RX4 97 yX4_canBeWound, .instanceMethod yX4_canBeWound, .selects RX4 yX4_canBeWound yX4_canBeWound, .code yX4_canBeWound cX4_canBeWound 2 (some .boolean), .methodLink RX4 112 yX4_ladderNeeded, .instanceMethod yX4_ladderNeeded, .selects RX4 yX4_ladderNeeded yX4_ladderNeeded, .code yX4_ladderNeeded cX4_ladderNeeded 5 (some .int), .fieldLink RX4 42 "WinderLadders$State" "ladderCount" "I", .fieldLink RX4 21 "WinderLadders$State" "ladders" "[I"] ++ wsX50 ++ wsX40 ++ wsX00)
def wsX5_wayRound_r1 : List Cond := [Cond.fieldLink RX5 12 "WinderLadders" "now" "LWinderLadders$State;", Cond.fieldLink RX5 41 "WinderLadders" "row" "LWinderLadders$Row;", Cond.methodLink RX5 67 yX5_chooseRow, Cond.instanceMethod yX5_chooseRow, Cond.selects RX5 yX5_chooseRow yX5_chooseRow, Cond.initialized RX5, Cond.code yX5_chooseRow cX5_chooseRow 3 (some .int), Cond.fieldLink RX5 141 "WinderLadders$State" "clockCount" "I", Cond.fieldLink RX5 218 "WinderLadders$Row" "length" "I", Cond.methodLink RX5 212 yX3_clear, Cond.instanceMethod yX3_clear, Cond.selects RX3 yX3_clear yX3_clear, Cond.initialized RX3, Cond.code yX3_clear cX3_clear 1 none, Cond.fieldLink RX3 15 "WinderLadders$Row" "length" "I", Cond.methodLink RX5 215 yX3_add, Cond.instanceMethod yX3_add, Cond.selects RX3 yX3_add yX3_add, Cond.code yX3_add cX3_add 2 (some .boolean), Cond.fieldLink RX3 9 "WinderLadders$Row" "numbers" "[I", Cond.methodLink RX5 169 yX4_minutesOf, Cond.instanceMethod yX4_minutesOf, Cond.selects RX4 yX4_minutesOf yX4_minutesOf, Cond.initialized RX4]
def wsX5_wayRound_r2 : List Cond := [Cond.code yX4_minutesOf cX4_minutesOf 10 (some .int), Cond.fieldLink RX4 88 "WinderLadders$Row" "length" "I", Cond.fieldLink RX4 17 "WinderLadders$State" "clocks" "[LWinderLadders$Clock;", Cond.fieldLink RX4 104 "WinderLadders$Clock" "house" "I", Cond.methodLink RX4 107 Lib.Math.abs.name, Cond.static Lib.Math.abs.name, Cond.initialized "java/lang/Math", Cond.code Lib.Math.abs.name Lib.Math.abs.code 1 (some .int), Cond.fieldLink RX4 9 "WinderLadders$State" "settings" "[I", Cond.methodLink RX4 93 yX3_at, Cond.instanceMethod yX3_at, Cond.selects RX3 yX3_at yX3_at, Cond.code yX3_at cX3_at 2 (some .int), Cond.methodLink RX4 62 yX4_hasClock, Cond.instanceMethod yX4_hasClock, Cond.selects RX4 yX4_hasClock yX4_hasClock, Cond.code yX4_hasClock cX4_hasClock 2 (some .boolean), Cond.fieldLink RX4 34 "WinderLadders$State" "clockCount" "I", Cond.methodLink RX4 112 yX4_ladderNeeded, Cond.instanceMethod yX4_ladderNeeded, Cond.selects RX4 yX4_ladderNeeded yX4_ladderNeeded, Cond.code yX4_ladderNeeded cX4_ladderNeeded 5 (some .int), Cond.fieldLink RX4 116 "WinderLadders$Clock" "rungs" "I", Cond.fieldLink RX4 42 "WinderLadders$State" "ladderCount" "I"]
def wsX5_wayRound_r3 : List Cond := [Cond.fieldLink RX4 21 "WinderLadders$State" "ladders" "[I", Cond.methodLink RX4 97 yX4_canBeWound, Cond.instanceMethod yX4_canBeWound, Cond.selects RX4 yX4_canBeWound yX4_canBeWound, Cond.code yX4_canBeWound cX4_canBeWound 2 (some .boolean), Cond.methodLink RX5 181 yX3_turnRound, Cond.instanceMethod yX3_turnRound, Cond.selects RX3 yX3_turnRound yX3_turnRound, Cond.code yX3_turnRound cX3_turnRound 3 none]
def wsX5_wayRound : List Cond := .code yX5_wayRound cX5_wayRound 5 (some .int) :: ((wsX5_wayRound_r1 ++ (wsX5_wayRound_r2 ++ wsX5_wayRound_r3)) ++ wsX50 ++ wsX40 ++ wsX30 ++ wsX00)
def wsX5_codeAt : List Cond := .code yX5_codeAt cX5_codeAt 3 (some .int) :: ([])
def wsX5_signsIn : List Cond := .code yX5_signsIn cX5_signsIn 4 (some .int) :: ([.methodLink RX5 188 yX5_codeAt, .static yX5_codeAt, .initialized RX5, .code yX5_codeAt cX5_codeAt 3 (some .int)])
def wsX5_put : List Cond := .code yX5_put cX5_put 5 (some .int) :: ([.fieldLink RX5 34 "WinderLadders" "pad" "LWinderLadders$Pad;", .fieldLink RX5 163 "WinderLadders$Pad" "length" "I", .methodLink RX5 184 yX5_signsIn, .static yX5_signsIn, .initialized RX5, .code yX5_signsIn cX5_signsIn 4 (some .int), .methodLink RX5 188 yX5_codeAt, .static yX5_codeAt, .code yX5_codeAt cX5_codeAt 3 (some .int), .methodLink RX5 192 yX2_append, .instanceMethod yX2_append, .selects RX2 yX2_append yX2_append, .initialized RX2, .code yX2_append cX2_append 2 none, .fieldLink RX2 22 "WinderLadders$Pad" "length" "I", .fieldLink RX2 9 "WinderLadders$Pad" "signs" "[C"] ++ wsX50 ++ wsX20)
def wsX5_wipe : List Cond := .code yX5_wipe cX5_wipe 2 (some .int) :: ([.fieldLink RX5 34 "WinderLadders" "pad" "LWinderLadders$Pad;", .fieldLink RX5 163 "WinderLadders$Pad" "length" "I"] ++ wsX50 ++ wsX20)
def wsX5_fault_r1 : List Cond := [Cond.fieldLink RX5 34 "WinderLadders" "pad" "LWinderLadders$Pad;", Cond.methodLink RX5 196 yX2_findFault, Cond.instanceMethod yX2_findFault, Cond.selects RX2 yX2_findFault yX2_findFault, Cond.initialized RX2, Cond.code yX2_findFault cX2_findFault 2 (some .int), Cond.fieldLink RX2 33 "WinderLadders$Pad" "place" "I", Cond.fieldLink RX2 22 "WinderLadders$Pad" "length" "I", Cond.methodLink RX2 26 yX2_goToStart, Cond.instanceMethod yX2_goToStart, Cond.selects RX2 yX2_goToStart yX2_goToStart, Cond.code yX2_goToStart cX2_goToStart 1 none, Cond.methodLink RX2 29 yX2_readNext, Cond.instanceMethod yX2_readNext, Cond.selects RX2 yX2_readNext yX2_readNext, Cond.code yX2_readNext cX2_readNext 1 (some .boolean), Cond.fieldLink RX2 18 "WinderLadders$Pad" "numbers" "LWinderLadders$Row;", Cond.fieldLink RX2 47 "WinderLadders$Pad" "kind" "I", Cond.methodLink RX2 36 yX2_take, Cond.instanceMethod yX2_take, Cond.selects RX2 yX2_take yX2_take, Cond.code yX2_take cX2_take 2 (some .boolean), Cond.methodLink RX2 43 yX2_here, Cond.instanceMethod yX2_here]
def wsX5_fault_r2 : List Cond := [Cond.selects RX2 yX2_here yX2_here, Cond.code yX2_here cX2_here 1 (some .char), Cond.fieldLink RX2 9 "WinderLadders$Pad" "signs" "[C", Cond.methodLink RX2 40 yX3_clear, Cond.instanceMethod yX3_clear, Cond.selects RX3 yX3_clear yX3_clear, Cond.initialized RX3, Cond.code yX3_clear cX3_clear 1 none, Cond.fieldLink RX3 15 "WinderLadders$Row" "length" "I", Cond.methodLink RX2 50 yX2_readNumber, Cond.instanceMethod yX2_readNumber, Cond.selects RX2 yX2_readNumber yX2_readNumber, Cond.code yX2_readNumber cX2_readNumber 3 (some .boolean), Cond.methodLink RX2 60 yX2_isDigit, Cond.static yX2_isDigit, Cond.code yX2_isDigit cX2_isDigit 1 (some .boolean), Cond.methodLink RX2 63 yX3_add, Cond.instanceMethod yX3_add, Cond.selects RX3 yX3_add yX3_add, Cond.code yX3_add cX3_add 2 (some .boolean), Cond.fieldLink RX3 9 "WinderLadders$Row" "numbers" "[I", Cond.methodLink RX2 54 yX2_readValue, Cond.instanceMethod yX2_readValue, Cond.selects RX2 yX2_readValue yX2_readValue]
def wsX5_fault_r3 : List Cond := [Cond.code yX2_readValue cX2_readValue 1 (some .boolean), Cond.methodLink RX2 57 yX2_readNumbers, Cond.instanceMethod yX2_readNumbers, Cond.selects RX2 yX2_readNumbers yX2_readNumbers, Cond.code yX2_readNumbers cX2_readNumbers 2 (some .boolean)]
def wsX5_fault : List Cond := .code yX5_fault cX5_fault 1 (some .int) :: ((wsX5_fault_r1 ++ (wsX5_fault_r2 ++ wsX5_fault_r3)) ++ wsX50 ++ wsX20 ++ wsX30)
def wsX5_carryOneOut_r1 : List Cond := [Cond.fieldLink RX5 34 "WinderLadders" "pad" "LWinderLadders$Pad;", Cond.fieldLink RX5 229 "WinderLadders$Pad" "numbers" "LWinderLadders$Row;", Cond.fieldLink RX5 232 "WinderLadders$Pad" "kind" "I", Cond.fieldLink RX5 12 "WinderLadders" "now" "LWinderLadders$State;", Cond.methodLink RX5 235 yX3_at, Cond.instanceMethod yX3_at, Cond.selects RX3 yX3_at yX3_at, Cond.initialized RX3, Cond.code yX3_at cX3_at 2 (some .int), Cond.fieldLink RX3 15 "WinderLadders$Row" "length" "I", Cond.fieldLink RX3 9 "WinderLadders$Row" "numbers" "[I", Cond.methodLink RX5 57 yX4_addClock, Cond.instanceMethod yX4_addClock, Cond.selects RX4 yX4_addClock yX4_addClock, Cond.initialized RX4, Cond.code yX4_addClock cX4_addClock 4 (some .int), Cond.fieldLink RX4 34 "WinderLadders$State" "clockCount" "I", Cond.fieldLink RX4 17 "WinderLadders$State" "clocks" "[LWinderLadders$Clock;", Cond.static yX5_isWithin, Cond.initialized RX5, Cond.code yX5_isWithin cX5_isWithin 3 (some .boolean), Cond.methodLink RX4 58 yX0_begin, Cond.instanceMethod yX0_begin, Cond.selects RX0 yX0_begin yX0_begin]
def wsX5_carryOneOut_r2 : List Cond := [Cond.initialized RX0, Cond.code yX0_begin cX0_begin 4 none, Cond.fieldLink RX0 9 "WinderLadders$Clock" "house" "I", Cond.fieldLink RX0 15 "WinderLadders$Clock" "rungs" "I", Cond.fieldLink RX0 18 "WinderLadders$Clock" "drift" "I", Cond.fieldLink RX0 21 "WinderLadders$Clock" "screw" "I", Cond.fieldLink RX0 24 "WinderLadders$Clock" "off" "I", Cond.fieldLink RX0 27 "WinderLadders$Clock" "daysSinceWound" "I", Cond.fieldLink RX0 30 "WinderLadders$Clock" "timesWound" "I", Cond.fieldLink RX0 33 "WinderLadders$Clock" "goes" "Z", Cond.methodLink RX5 61 yX4_addLadder, Cond.instanceMethod yX4_addLadder, Cond.selects RX4 yX4_addLadder yX4_addLadder, Cond.code yX4_addLadder cX4_addLadder 2 (some .int), Cond.fieldLink RX4 42 "WinderLadders$State" "ladderCount" "I", Cond.fieldLink RX4 21 "WinderLadders$State" "ladders" "[I", Cond.methodLink RX5 70 yX4_walkBeat, Cond.instanceMethod yX4_walkBeat, Cond.selects RX4 yX4_walkBeat yX4_walkBeat, Cond.code yX4_walkBeat cX4_walkBeat 5 (some .int), Cond.fieldLink RX4 88 "WinderLadders$Row" "length" "I", Cond.fieldLink RX4 9 "WinderLadders$State" "settings" "[I", Cond.fieldLink RX4 48 "WinderLadders$State" "minutes" "I", Cond.methodLink RX4 84 yX4_minutesOf]
def wsX5_carryOneOut_r3 : List Cond := [Cond.instanceMethod yX4_minutesOf, Cond.selects RX4 yX4_minutesOf yX4_minutesOf, Cond.code yX4_minutesOf cX4_minutesOf 10 (some .int), Cond.fieldLink RX4 104 "WinderLadders$Clock" "house" "I", Cond.methodLink RX4 107 Lib.Math.abs.name, Cond.static Lib.Math.abs.name, Cond.initialized "java/lang/Math", Cond.code Lib.Math.abs.name Lib.Math.abs.code 1 (some .int), Cond.methodLink RX4 93 yX3_at, Cond.methodLink RX4 62 yX4_hasClock, Cond.instanceMethod yX4_hasClock, Cond.selects RX4 yX4_hasClock yX4_hasClock, Cond.code yX4_hasClock cX4_hasClock 2 (some .boolean), Cond.methodLink RX4 112 yX4_ladderNeeded, Cond.instanceMethod yX4_ladderNeeded, Cond.selects RX4 yX4_ladderNeeded yX4_ladderNeeded, Cond.code yX4_ladderNeeded cX4_ladderNeeded 5 (some .int), Cond.fieldLink RX4 116 "WinderLadders$Clock" "rungs" "I", Cond.methodLink RX4 97 yX4_canBeWound, Cond.instanceMethod yX4_canBeWound, Cond.selects RX4 yX4_canBeWound yX4_canBeWound, Cond.code yX4_canBeWound cX4_canBeWound 2 (some .boolean), Cond.methodLink RX4 101 yX0_windAndSet, Cond.instanceMethod yX0_windAndSet]
def wsX5_carryOneOut_r4 : List Cond := [Cond.selects RX0 yX0_windAndSet yX0_windAndSet, Cond.code yX0_windAndSet cX0_windAndSet 2 none, Cond.methodLink RX0 48 yX0_isOffBeyond, Cond.instanceMethod yX0_isOffBeyond, Cond.selects RX0 yX0_isOffBeyond yX0_isOffBeyond, Cond.code yX0_isOffBeyond cX0_isOffBeyond 2 (some .boolean), Cond.methodLink RX0 37 Lib.Math.abs.name, Cond.methodLink RX0 52 yX0_turnByRule, Cond.instanceMethod yX0_turnByRule, Cond.selects RX0 yX0_turnByRule yX0_turnByRule, Cond.code yX0_turnByRule cX0_turnByRule 2 none, Cond.methodLink RX0 43 yX0_driftWithScrew, Cond.instanceMethod yX0_driftWithScrew, Cond.selects RX0 yX0_driftWithScrew yX0_driftWithScrew, Cond.code yX0_driftWithScrew cX0_driftWithScrew 1 (some .int), Cond.methodLink RX5 74 yX4_passDays, Cond.instanceMethod yX4_passDays, Cond.selects RX4 yX4_passDays yX4_passDays, Cond.code yX4_passDays cX4_passDays 4 (some .int), Cond.fieldLink RX4 45 "WinderLadders$State" "days" "I", Cond.methodLink RX4 69 yX0_passDay, Cond.instanceMethod yX0_passDay, Cond.selects RX0 yX0_passDay yX0_passDay, Cond.code yX0_passDay cX0_passDay 2 none]
def wsX5_carryOneOut_r5 : List Cond := [Cond.constant RX0 47 (43200), Cond.methodLink RX4 73 yX4_numberThatGo, Cond.instanceMethod yX4_numberThatGo, Cond.selects RX4 yX4_numberThatGo yX4_numberThatGo, Cond.code yX4_numberThatGo cX4_numberThatGo 3 (some .int), Cond.fieldLink RX4 77 "WinderLadders$Clock" "goes" "Z", Cond.methodLink RX5 77 yX4_changeClocks, Cond.instanceMethod yX4_changeClocks, Cond.selects RX4 yX4_changeClocks yX4_changeClocks, Cond.code yX4_changeClocks cX4_changeClocks 4 (some .int), Cond.fieldLink RX4 81 "WinderLadders$Clock" "off" "I"]
def wsX5_carryOneOut : List Cond := .code yX5_carryOneOut cX5_carryOneOut 2 (some .int) :: ((wsX5_carryOneOut_r1 ++ (wsX5_carryOneOut_r2 ++ (wsX5_carryOneOut_r3 ++ (wsX5_carryOneOut_r4 ++ wsX5_carryOneOut_r5)))) ++ wsX50 ++ wsX20 ++ wsX30 ++ wsX40 ++ wsX00)
def wsX5_carryOrdersOut_r1 : List Cond := [Cond.fieldLink RX5 34 "WinderLadders" "pad" "LWinderLadders$Pad;", Cond.methodLink RX5 219 yX2_goToStart, Cond.instanceMethod yX2_goToStart, Cond.selects RX2 yX2_goToStart yX2_goToStart, Cond.initialized RX2, Cond.code yX2_goToStart cX2_goToStart 1 none, Cond.fieldLink RX2 33 "WinderLadders$Pad" "place" "I", Cond.methodLink RX5 222 yX2_readNext, Cond.instanceMethod yX2_readNext, Cond.selects RX2 yX2_readNext yX2_readNext, Cond.code yX2_readNext cX2_readNext 1 (some .boolean), Cond.fieldLink RX2 18 "WinderLadders$Pad" "numbers" "LWinderLadders$Row;", Cond.fieldLink RX2 47 "WinderLadders$Pad" "kind" "I", Cond.methodLink RX2 36 yX2_take, Cond.instanceMethod yX2_take, Cond.selects RX2 yX2_take yX2_take, Cond.code yX2_take cX2_take 2 (some .boolean), Cond.methodLink RX2 43 yX2_here, Cond.instanceMethod yX2_here, Cond.selects RX2 yX2_here yX2_here, Cond.code yX2_here cX2_here 1 (some .char), Cond.fieldLink RX2 22 "WinderLadders$Pad" "length" "I", Cond.fieldLink RX2 9 "WinderLadders$Pad" "signs" "[C", Cond.methodLink RX2 40 yX3_clear]
def wsX5_carryOrdersOut_r2 : List Cond := [Cond.instanceMethod yX3_clear, Cond.selects RX3 yX3_clear yX3_clear, Cond.initialized RX3, Cond.code yX3_clear cX3_clear 1 none, Cond.fieldLink RX3 15 "WinderLadders$Row" "length" "I", Cond.methodLink RX2 50 yX2_readNumber, Cond.instanceMethod yX2_readNumber, Cond.selects RX2 yX2_readNumber yX2_readNumber, Cond.code yX2_readNumber cX2_readNumber 3 (some .boolean), Cond.methodLink RX2 60 yX2_isDigit, Cond.static yX2_isDigit, Cond.code yX2_isDigit cX2_isDigit 1 (some .boolean), Cond.methodLink RX2 63 yX3_add, Cond.instanceMethod yX3_add, Cond.selects RX3 yX3_add yX3_add, Cond.code yX3_add cX3_add 2 (some .boolean), Cond.fieldLink RX3 9 "WinderLadders$Row" "numbers" "[I", Cond.methodLink RX2 54 yX2_readValue, Cond.instanceMethod yX2_readValue, Cond.selects RX2 yX2_readValue yX2_readValue, Cond.code yX2_readValue cX2_readValue 1 (some .boolean), Cond.methodLink RX2 57 yX2_readNumbers, Cond.instanceMethod yX2_readNumbers, Cond.selects RX2 yX2_readNumbers yX2_readNumbers]
def wsX5_carryOrdersOut_r3 : List Cond := [Cond.code yX2_readNumbers cX2_readNumbers 2 (some .boolean), Cond.methodLink RX5 226 yX5_carryOneOut, Cond.instanceMethod yX5_carryOneOut, Cond.selects RX5 yX5_carryOneOut yX5_carryOneOut, Cond.initialized RX5, Cond.code yX5_carryOneOut cX5_carryOneOut 2 (some .int), Cond.fieldLink RX5 229 "WinderLadders$Pad" "numbers" "LWinderLadders$Row;", Cond.fieldLink RX5 232 "WinderLadders$Pad" "kind" "I", Cond.fieldLink RX5 12 "WinderLadders" "now" "LWinderLadders$State;", Cond.methodLink RX5 235 yX3_at, Cond.instanceMethod yX3_at, Cond.selects RX3 yX3_at yX3_at, Cond.code yX3_at cX3_at 2 (some .int), Cond.methodLink RX5 57 yX4_addClock, Cond.instanceMethod yX4_addClock, Cond.selects RX4 yX4_addClock yX4_addClock, Cond.initialized RX4, Cond.code yX4_addClock cX4_addClock 4 (some .int), Cond.fieldLink RX4 34 "WinderLadders$State" "clockCount" "I", Cond.fieldLink RX4 17 "WinderLadders$State" "clocks" "[LWinderLadders$Clock;", Cond.static yX5_isWithin, Cond.code yX5_isWithin cX5_isWithin 3 (some .boolean), Cond.methodLink RX4 58 yX0_begin, Cond.instanceMethod yX0_begin]
def wsX5_carryOrdersOut_r4 : List Cond := [Cond.selects RX0 yX0_begin yX0_begin, Cond.initialized RX0, Cond.code yX0_begin cX0_begin 4 none, Cond.fieldLink RX0 9 "WinderLadders$Clock" "house" "I", Cond.fieldLink RX0 15 "WinderLadders$Clock" "rungs" "I", Cond.fieldLink RX0 18 "WinderLadders$Clock" "drift" "I", Cond.fieldLink RX0 21 "WinderLadders$Clock" "screw" "I", Cond.fieldLink RX0 24 "WinderLadders$Clock" "off" "I", Cond.fieldLink RX0 27 "WinderLadders$Clock" "daysSinceWound" "I", Cond.fieldLink RX0 30 "WinderLadders$Clock" "timesWound" "I", Cond.fieldLink RX0 33 "WinderLadders$Clock" "goes" "Z", Cond.methodLink RX5 61 yX4_addLadder, Cond.instanceMethod yX4_addLadder, Cond.selects RX4 yX4_addLadder yX4_addLadder, Cond.code yX4_addLadder cX4_addLadder 2 (some .int), Cond.fieldLink RX4 42 "WinderLadders$State" "ladderCount" "I", Cond.fieldLink RX4 21 "WinderLadders$State" "ladders" "[I", Cond.methodLink RX5 70 yX4_walkBeat, Cond.instanceMethod yX4_walkBeat, Cond.selects RX4 yX4_walkBeat yX4_walkBeat, Cond.code yX4_walkBeat cX4_walkBeat 5 (some .int), Cond.fieldLink RX4 88 "WinderLadders$Row" "length" "I", Cond.fieldLink RX4 9 "WinderLadders$State" "settings" "[I", Cond.fieldLink RX4 48 "WinderLadders$State" "minutes" "I"]
def wsX5_carryOrdersOut_r5 : List Cond := [Cond.methodLink RX4 84 yX4_minutesOf, Cond.instanceMethod yX4_minutesOf, Cond.selects RX4 yX4_minutesOf yX4_minutesOf, Cond.code yX4_minutesOf cX4_minutesOf 10 (some .int), Cond.fieldLink RX4 104 "WinderLadders$Clock" "house" "I", Cond.methodLink RX4 107 Lib.Math.abs.name, Cond.static Lib.Math.abs.name, Cond.initialized "java/lang/Math", Cond.code Lib.Math.abs.name Lib.Math.abs.code 1 (some .int), Cond.methodLink RX4 93 yX3_at, Cond.methodLink RX4 62 yX4_hasClock, Cond.instanceMethod yX4_hasClock, Cond.selects RX4 yX4_hasClock yX4_hasClock, Cond.code yX4_hasClock cX4_hasClock 2 (some .boolean), Cond.methodLink RX4 112 yX4_ladderNeeded, Cond.instanceMethod yX4_ladderNeeded, Cond.selects RX4 yX4_ladderNeeded yX4_ladderNeeded, Cond.code yX4_ladderNeeded cX4_ladderNeeded 5 (some .int), Cond.fieldLink RX4 116 "WinderLadders$Clock" "rungs" "I", Cond.methodLink RX4 97 yX4_canBeWound, Cond.instanceMethod yX4_canBeWound, Cond.selects RX4 yX4_canBeWound yX4_canBeWound, Cond.code yX4_canBeWound cX4_canBeWound 2 (some .boolean), Cond.methodLink RX4 101 yX0_windAndSet]
def wsX5_carryOrdersOut_r6 : List Cond := [Cond.instanceMethod yX0_windAndSet, Cond.selects RX0 yX0_windAndSet yX0_windAndSet, Cond.code yX0_windAndSet cX0_windAndSet 2 none, Cond.methodLink RX0 48 yX0_isOffBeyond, Cond.instanceMethod yX0_isOffBeyond, Cond.selects RX0 yX0_isOffBeyond yX0_isOffBeyond, Cond.code yX0_isOffBeyond cX0_isOffBeyond 2 (some .boolean), Cond.methodLink RX0 37 Lib.Math.abs.name, Cond.methodLink RX0 52 yX0_turnByRule, Cond.instanceMethod yX0_turnByRule, Cond.selects RX0 yX0_turnByRule yX0_turnByRule, Cond.code yX0_turnByRule cX0_turnByRule 2 none, Cond.methodLink RX0 43 yX0_driftWithScrew, Cond.instanceMethod yX0_driftWithScrew, Cond.selects RX0 yX0_driftWithScrew yX0_driftWithScrew, Cond.code yX0_driftWithScrew cX0_driftWithScrew 1 (some .int), Cond.methodLink RX5 74 yX4_passDays, Cond.instanceMethod yX4_passDays, Cond.selects RX4 yX4_passDays yX4_passDays, Cond.code yX4_passDays cX4_passDays 4 (some .int), Cond.fieldLink RX4 45 "WinderLadders$State" "days" "I", Cond.methodLink RX4 69 yX0_passDay, Cond.instanceMethod yX0_passDay, Cond.selects RX0 yX0_passDay yX0_passDay]
def wsX5_carryOrdersOut_r7 : List Cond := [Cond.code yX0_passDay cX0_passDay 2 none, Cond.constant RX0 47 (43200), Cond.methodLink RX4 73 yX4_numberThatGo, Cond.instanceMethod yX4_numberThatGo, Cond.selects RX4 yX4_numberThatGo yX4_numberThatGo, Cond.code yX4_numberThatGo cX4_numberThatGo 3 (some .int), Cond.fieldLink RX4 77 "WinderLadders$Clock" "goes" "Z", Cond.methodLink RX5 77 yX4_changeClocks, Cond.instanceMethod yX4_changeClocks, Cond.selects RX4 yX4_changeClocks yX4_changeClocks, Cond.code yX4_changeClocks cX4_changeClocks 4 (some .int), Cond.fieldLink RX4 81 "WinderLadders$Clock" "off" "I"]
def wsX5_carryOrdersOut : List Cond := .code yX5_carryOrdersOut cX5_carryOrdersOut 2 (some .int) :: ((wsX5_carryOrdersOut_r1 ++ (wsX5_carryOrdersOut_r2 ++ (wsX5_carryOrdersOut_r3 ++ (wsX5_carryOrdersOut_r4 ++ (wsX5_carryOrdersOut_r5 ++ (wsX5_carryOrdersOut_r6 ++ wsX5_carryOrdersOut_r7)))))) ++ wsX50 ++ wsX20 ++ wsX30 ++ wsX40 ++ wsX00)
def wsX5_carryOut_r1 : List Cond := [Cond.fieldLink RX5 34 "WinderLadders" "pad" "LWinderLadders$Pad;", Cond.fieldLink RX5 19 "WinderLadders" "history" "LWinderLadders$History;", Cond.fieldLink RX5 12 "WinderLadders" "now" "LWinderLadders$State;", Cond.fieldLink RX5 163 "WinderLadders$Pad" "length" "I", Cond.methodLink RX5 196 yX2_findFault, Cond.instanceMethod yX2_findFault, Cond.selects RX2 yX2_findFault yX2_findFault, Cond.initialized RX2, Cond.code yX2_findFault cX2_findFault 2 (some .int), Cond.fieldLink RX2 33 "WinderLadders$Pad" "place" "I", Cond.fieldLink RX2 22 "WinderLadders$Pad" "length" "I", Cond.methodLink RX2 26 yX2_goToStart, Cond.instanceMethod yX2_goToStart, Cond.selects RX2 yX2_goToStart yX2_goToStart, Cond.code yX2_goToStart cX2_goToStart 1 none, Cond.methodLink RX2 29 yX2_readNext, Cond.instanceMethod yX2_readNext, Cond.selects RX2 yX2_readNext yX2_readNext, Cond.code yX2_readNext cX2_readNext 1 (some .boolean), Cond.fieldLink RX2 18 "WinderLadders$Pad" "numbers" "LWinderLadders$Row;", Cond.fieldLink RX2 47 "WinderLadders$Pad" "kind" "I", Cond.methodLink RX2 36 yX2_take, Cond.instanceMethod yX2_take, Cond.selects RX2 yX2_take yX2_take]
def wsX5_carryOut_r2 : List Cond := [Cond.code yX2_take cX2_take 2 (some .boolean), Cond.methodLink RX2 43 yX2_here, Cond.instanceMethod yX2_here, Cond.selects RX2 yX2_here yX2_here, Cond.code yX2_here cX2_here 1 (some .char), Cond.fieldLink RX2 9 "WinderLadders$Pad" "signs" "[C", Cond.methodLink RX2 40 yX3_clear, Cond.instanceMethod yX3_clear, Cond.selects RX3 yX3_clear yX3_clear, Cond.initialized RX3, Cond.code yX3_clear cX3_clear 1 none, Cond.fieldLink RX3 15 "WinderLadders$Row" "length" "I", Cond.methodLink RX2 50 yX2_readNumber, Cond.instanceMethod yX2_readNumber, Cond.selects RX2 yX2_readNumber yX2_readNumber, Cond.code yX2_readNumber cX2_readNumber 3 (some .boolean), Cond.methodLink RX2 60 yX2_isDigit, Cond.static yX2_isDigit, Cond.code yX2_isDigit cX2_isDigit 1 (some .boolean), Cond.methodLink RX2 63 yX3_add, Cond.instanceMethod yX3_add, Cond.selects RX3 yX3_add yX3_add, Cond.code yX3_add cX3_add 2 (some .boolean), Cond.fieldLink RX3 9 "WinderLadders$Row" "numbers" "[I"]
def wsX5_carryOut_r3 : List Cond := [Cond.methodLink RX2 54 yX2_readValue, Cond.instanceMethod yX2_readValue, Cond.selects RX2 yX2_readValue yX2_readValue, Cond.code yX2_readValue cX2_readValue 1 (some .boolean), Cond.methodLink RX2 57 yX2_readNumbers, Cond.instanceMethod yX2_readNumbers, Cond.selects RX2 yX2_readNumbers yX2_readNumbers, Cond.code yX2_readNumbers cX2_readNumbers 2 (some .boolean), Cond.methodLink RX5 45 yX1_prepare, Cond.instanceMethod yX1_prepare, Cond.selects RX1 yX1_prepare yX1_prepare, Cond.initialized RX1, Cond.code yX1_prepare cX1_prepare 2 none, Cond.fieldLink RX1 11 "WinderLadders$History" "states" "[LWinderLadders$State;", Cond.fieldLink RX1 18 "WinderLadders$History" "depth" "I", Cond.methodLink RX1 22 yX4_copyFrom, Cond.instanceMethod yX4_copyFrom, Cond.selects RX4 yX4_copyFrom yX4_copyFrom, Cond.initialized RX4, Cond.code yX4_copyFrom cX4_copyFrom 3 none, Cond.fieldLink RX4 9 "WinderLadders$State" "settings" "[I", Cond.methodLink RX4 27 arraycopyName, Cond.native arraycopyName, Cond.static arraycopyName]
def wsX5_carryOut_r4 : List Cond := [Cond.initialized "java/lang/System", Cond.fieldLink RX4 21 "WinderLadders$State" "ladders" "[I", Cond.fieldLink RX4 34 "WinderLadders$State" "clockCount" "I", Cond.fieldLink RX4 17 "WinderLadders$State" "clocks" "[LWinderLadders$Clock;", Cond.fieldLink RX4 42 "WinderLadders$State" "ladderCount" "I", Cond.fieldLink RX4 45 "WinderLadders$State" "days" "I", Cond.fieldLink RX4 48 "WinderLadders$State" "minutes" "I", Cond.methodLink RX4 38 yX0_copyFrom, Cond.instanceMethod yX0_copyFrom, Cond.selects RX0 yX0_copyFrom yX0_copyFrom, Cond.initialized RX0, Cond.code yX0_copyFrom cX0_copyFrom 2 none, Cond.fieldLink RX0 9 "WinderLadders$Clock" "house" "I", Cond.fieldLink RX0 15 "WinderLadders$Clock" "rungs" "I", Cond.fieldLink RX0 18 "WinderLadders$Clock" "drift" "I", Cond.fieldLink RX0 21 "WinderLadders$Clock" "screw" "I", Cond.fieldLink RX0 24 "WinderLadders$Clock" "off" "I", Cond.fieldLink RX0 27 "WinderLadders$Clock" "daysSinceWound" "I", Cond.fieldLink RX0 30 "WinderLadders$Clock" "timesWound" "I", Cond.fieldLink RX0 33 "WinderLadders$Clock" "goes" "Z", Cond.methodLink RX5 199 yX5_carryOrdersOut, Cond.instanceMethod yX5_carryOrdersOut, Cond.selects RX5 yX5_carryOrdersOut yX5_carryOrdersOut, Cond.initialized RX5]
def wsX5_carryOut_r5 : List Cond := [Cond.code yX5_carryOrdersOut cX5_carryOrdersOut 2 (some .int), Cond.methodLink RX5 219 yX2_goToStart, Cond.methodLink RX5 222 yX2_readNext, Cond.methodLink RX5 226 yX5_carryOneOut, Cond.instanceMethod yX5_carryOneOut, Cond.selects RX5 yX5_carryOneOut yX5_carryOneOut, Cond.code yX5_carryOneOut cX5_carryOneOut 2 (some .int), Cond.fieldLink RX5 229 "WinderLadders$Pad" "numbers" "LWinderLadders$Row;", Cond.fieldLink RX5 232 "WinderLadders$Pad" "kind" "I", Cond.methodLink RX5 235 yX3_at, Cond.instanceMethod yX3_at, Cond.selects RX3 yX3_at yX3_at, Cond.code yX3_at cX3_at 2 (some .int), Cond.methodLink RX5 57 yX4_addClock, Cond.instanceMethod yX4_addClock, Cond.selects RX4 yX4_addClock yX4_addClock, Cond.code yX4_addClock cX4_addClock 4 (some .int), Cond.static yX5_isWithin, Cond.code yX5_isWithin cX5_isWithin 3 (some .boolean), Cond.methodLink RX4 58 yX0_begin, Cond.instanceMethod yX0_begin, Cond.selects RX0 yX0_begin yX0_begin, Cond.code yX0_begin cX0_begin 4 none, Cond.methodLink RX5 61 yX4_addLadder]
def wsX5_carryOut_r6 : List Cond := [Cond.instanceMethod yX4_addLadder, Cond.selects RX4 yX4_addLadder yX4_addLadder, Cond.code yX4_addLadder cX4_addLadder 2 (some .int), Cond.methodLink RX5 70 yX4_walkBeat, Cond.instanceMethod yX4_walkBeat, Cond.selects RX4 yX4_walkBeat yX4_walkBeat, Cond.code yX4_walkBeat cX4_walkBeat 5 (some .int), Cond.fieldLink RX4 88 "WinderLadders$Row" "length" "I", Cond.methodLink RX4 84 yX4_minutesOf, Cond.instanceMethod yX4_minutesOf, Cond.selects RX4 yX4_minutesOf yX4_minutesOf, Cond.code yX4_minutesOf cX4_minutesOf 10 (some .int), Cond.fieldLink RX4 104 "WinderLadders$Clock" "house" "I", Cond.methodLink RX4 107 Lib.Math.abs.name, Cond.static Lib.Math.abs.name, Cond.initialized "java/lang/Math", Cond.code Lib.Math.abs.name Lib.Math.abs.code 1 (some .int), Cond.methodLink RX4 93 yX3_at, Cond.methodLink RX4 62 yX4_hasClock, Cond.instanceMethod yX4_hasClock, Cond.selects RX4 yX4_hasClock yX4_hasClock, Cond.code yX4_hasClock cX4_hasClock 2 (some .boolean), Cond.methodLink RX4 112 yX4_ladderNeeded, Cond.instanceMethod yX4_ladderNeeded]
def wsX5_carryOut_r7 : List Cond := [Cond.selects RX4 yX4_ladderNeeded yX4_ladderNeeded, Cond.code yX4_ladderNeeded cX4_ladderNeeded 5 (some .int), Cond.fieldLink RX4 116 "WinderLadders$Clock" "rungs" "I", Cond.methodLink RX4 97 yX4_canBeWound, Cond.instanceMethod yX4_canBeWound, Cond.selects RX4 yX4_canBeWound yX4_canBeWound, Cond.code yX4_canBeWound cX4_canBeWound 2 (some .boolean), Cond.methodLink RX4 101 yX0_windAndSet, Cond.instanceMethod yX0_windAndSet, Cond.selects RX0 yX0_windAndSet yX0_windAndSet, Cond.code yX0_windAndSet cX0_windAndSet 2 none, Cond.methodLink RX0 48 yX0_isOffBeyond, Cond.instanceMethod yX0_isOffBeyond, Cond.selects RX0 yX0_isOffBeyond yX0_isOffBeyond, Cond.code yX0_isOffBeyond cX0_isOffBeyond 2 (some .boolean), Cond.methodLink RX0 37 Lib.Math.abs.name, Cond.methodLink RX0 52 yX0_turnByRule, Cond.instanceMethod yX0_turnByRule, Cond.selects RX0 yX0_turnByRule yX0_turnByRule, Cond.code yX0_turnByRule cX0_turnByRule 2 none, Cond.methodLink RX0 43 yX0_driftWithScrew, Cond.instanceMethod yX0_driftWithScrew, Cond.selects RX0 yX0_driftWithScrew yX0_driftWithScrew, Cond.code yX0_driftWithScrew cX0_driftWithScrew 1 (some .int)]
def wsX5_carryOut_r8 : List Cond := [Cond.methodLink RX5 74 yX4_passDays, Cond.instanceMethod yX4_passDays, Cond.selects RX4 yX4_passDays yX4_passDays, Cond.code yX4_passDays cX4_passDays 4 (some .int), Cond.methodLink RX4 69 yX0_passDay, Cond.instanceMethod yX0_passDay, Cond.selects RX0 yX0_passDay yX0_passDay, Cond.code yX0_passDay cX0_passDay 2 none, Cond.constant RX0 47 (43200), Cond.methodLink RX4 73 yX4_numberThatGo, Cond.instanceMethod yX4_numberThatGo, Cond.selects RX4 yX4_numberThatGo yX4_numberThatGo, Cond.code yX4_numberThatGo cX4_numberThatGo 3 (some .int), Cond.fieldLink RX4 77 "WinderLadders$Clock" "goes" "Z", Cond.methodLink RX5 77 yX4_changeClocks, Cond.instanceMethod yX4_changeClocks, Cond.selects RX4 yX4_changeClocks yX4_changeClocks, Cond.code yX4_changeClocks cX4_changeClocks 4 (some .int), Cond.fieldLink RX4 81 "WinderLadders$Clock" "off" "I", Cond.methodLink RX5 53 yX5_keptIfDone, Cond.instanceMethod yX5_keptIfDone, Cond.selects RX5 yX5_keptIfDone yX5_keptIfDone, Cond.code yX5_keptIfDone cX5_keptIfDone 2 (some .int), Cond.methodLink RX5 209 yX1_keepPrepared]
def wsX5_carryOut_r9 : List Cond := [Cond.instanceMethod yX1_keepPrepared, Cond.selects RX1 yX1_keepPrepared yX1_keepPrepared, Cond.code yX1_keepPrepared cX1_keepPrepared 1 none, Cond.methodLink RX1 26 yX1_dropOldest, Cond.instanceMethod yX1_dropOldest, Cond.selects RX1 yX1_dropOldest yX1_dropOldest, Cond.code yX1_dropOldest cX1_dropOldest 3 none]
def wsX5_carryOut : List Cond := .code yX5_carryOut cX5_carryOut 2 (some .int) :: ((wsX5_carryOut_r1 ++ (wsX5_carryOut_r2 ++ (wsX5_carryOut_r3 ++ (wsX5_carryOut_r4 ++ (wsX5_carryOut_r5 ++ (wsX5_carryOut_r6 ++ (wsX5_carryOut_r7 ++ (wsX5_carryOut_r8 ++ wsX5_carryOut_r9)))))))) ++ wsX50 ++ wsX20 ++ wsX30 ++ wsX10 ++ wsX40 ++ wsX00)
def wsX5_undo_r1 : List Cond := [Cond.fieldLink RX5 19 "WinderLadders" "history" "LWinderLadders$History;", Cond.fieldLink RX5 12 "WinderLadders" "now" "LWinderLadders$State;", Cond.fieldLink RX5 166 "WinderLadders$History" "depth" "I", Cond.methodLink RX5 202 yX1_takeBack, Cond.instanceMethod yX1_takeBack, Cond.selects RX1 yX1_takeBack yX1_takeBack, Cond.initialized RX1, Cond.code yX1_takeBack cX1_takeBack 2 (some .boolean), Cond.fieldLink RX1 18 "WinderLadders$History" "depth" "I", Cond.fieldLink RX1 11 "WinderLadders$History" "states" "[LWinderLadders$State;", Cond.methodLink RX1 22 yX4_copyFrom, Cond.instanceMethod yX4_copyFrom, Cond.selects RX4 yX4_copyFrom yX4_copyFrom, Cond.initialized RX4, Cond.code yX4_copyFrom cX4_copyFrom 3 none, Cond.fieldLink RX4 9 "WinderLadders$State" "settings" "[I", Cond.methodLink RX4 27 arraycopyName, Cond.native arraycopyName, Cond.static arraycopyName, Cond.initialized "java/lang/System", Cond.fieldLink RX4 21 "WinderLadders$State" "ladders" "[I", Cond.fieldLink RX4 34 "WinderLadders$State" "clockCount" "I", Cond.fieldLink RX4 17 "WinderLadders$State" "clocks" "[LWinderLadders$Clock;", Cond.fieldLink RX4 42 "WinderLadders$State" "ladderCount" "I"]
def wsX5_undo_r2 : List Cond := [Cond.fieldLink RX4 45 "WinderLadders$State" "days" "I", Cond.fieldLink RX4 48 "WinderLadders$State" "minutes" "I", Cond.methodLink RX4 38 yX0_copyFrom, Cond.instanceMethod yX0_copyFrom, Cond.selects RX0 yX0_copyFrom yX0_copyFrom, Cond.initialized RX0, Cond.code yX0_copyFrom cX0_copyFrom 2 none, Cond.fieldLink RX0 9 "WinderLadders$Clock" "house" "I", Cond.fieldLink RX0 15 "WinderLadders$Clock" "rungs" "I", Cond.fieldLink RX0 18 "WinderLadders$Clock" "drift" "I", Cond.fieldLink RX0 21 "WinderLadders$Clock" "screw" "I", Cond.fieldLink RX0 24 "WinderLadders$Clock" "off" "I", Cond.fieldLink RX0 27 "WinderLadders$Clock" "daysSinceWound" "I", Cond.fieldLink RX0 30 "WinderLadders$Clock" "timesWound" "I", Cond.fieldLink RX0 33 "WinderLadders$Clock" "goes" "Z"]
def wsX5_undo : List Cond := .code yX5_undo cX5_undo 1 (some .int) :: ((wsX5_undo_r1 ++ wsX5_undo_r2) ++ wsX50 ++ wsX10 ++ wsX40 ++ wsX00)
def wsX5_save_r1 : List Cond := [Cond.fieldLink RX5 23 "WinderLadders" "slots" "[LWinderLadders$State;", Cond.fieldLink RX5 12 "WinderLadders" "now" "LWinderLadders$State;", Cond.fieldLink RX5 27 "WinderLadders" "slotHolds" "[Z", Cond.fieldLink RX5 141 "WinderLadders$State" "clockCount" "I", Cond.methodLink RX5 206 yX4_copyFrom, Cond.instanceMethod yX4_copyFrom, Cond.selects RX4 yX4_copyFrom yX4_copyFrom, Cond.initialized RX4, Cond.code yX4_copyFrom cX4_copyFrom 3 none, Cond.fieldLink RX4 9 "WinderLadders$State" "settings" "[I", Cond.methodLink RX4 27 arraycopyName, Cond.native arraycopyName, Cond.static arraycopyName, Cond.initialized "java/lang/System", Cond.fieldLink RX4 21 "WinderLadders$State" "ladders" "[I", Cond.fieldLink RX4 34 "WinderLadders$State" "clockCount" "I", Cond.fieldLink RX4 17 "WinderLadders$State" "clocks" "[LWinderLadders$Clock;", Cond.fieldLink RX4 42 "WinderLadders$State" "ladderCount" "I", Cond.fieldLink RX4 45 "WinderLadders$State" "days" "I", Cond.fieldLink RX4 48 "WinderLadders$State" "minutes" "I", Cond.methodLink RX4 38 yX0_copyFrom, Cond.instanceMethod yX0_copyFrom, Cond.selects RX0 yX0_copyFrom yX0_copyFrom, Cond.initialized RX0]
def wsX5_save_r2 : List Cond := [Cond.code yX0_copyFrom cX0_copyFrom 2 none, Cond.fieldLink RX0 9 "WinderLadders$Clock" "house" "I", Cond.fieldLink RX0 15 "WinderLadders$Clock" "rungs" "I", Cond.fieldLink RX0 18 "WinderLadders$Clock" "drift" "I", Cond.fieldLink RX0 21 "WinderLadders$Clock" "screw" "I", Cond.fieldLink RX0 24 "WinderLadders$Clock" "off" "I", Cond.fieldLink RX0 27 "WinderLadders$Clock" "daysSinceWound" "I", Cond.fieldLink RX0 30 "WinderLadders$Clock" "timesWound" "I", Cond.fieldLink RX0 33 "WinderLadders$Clock" "goes" "Z"]
def wsX5_save : List Cond := .code yX5_save cX5_save 2 (some .int) :: ((wsX5_save_r1 ++ wsX5_save_r2) ++ wsX50 ++ wsX40 ++ wsX00)
def wsX5_restore_r1 : List Cond := [Cond.fieldLink RX5 27 "WinderLadders" "slotHolds" "[Z", Cond.fieldLink RX5 19 "WinderLadders" "history" "LWinderLadders$History;", Cond.fieldLink RX5 12 "WinderLadders" "now" "LWinderLadders$State;", Cond.fieldLink RX5 23 "WinderLadders" "slots" "[LWinderLadders$State;", Cond.fieldLink RX5 141 "WinderLadders$State" "clockCount" "I", Cond.methodLink RX5 45 yX1_prepare, Cond.instanceMethod yX1_prepare, Cond.selects RX1 yX1_prepare yX1_prepare, Cond.initialized RX1, Cond.code yX1_prepare cX1_prepare 2 none, Cond.fieldLink RX1 11 "WinderLadders$History" "states" "[LWinderLadders$State;", Cond.fieldLink RX1 18 "WinderLadders$History" "depth" "I", Cond.methodLink RX1 22 yX4_copyFrom, Cond.instanceMethod yX4_copyFrom, Cond.selects RX4 yX4_copyFrom yX4_copyFrom, Cond.initialized RX4, Cond.code yX4_copyFrom cX4_copyFrom 3 none, Cond.fieldLink RX4 9 "WinderLadders$State" "settings" "[I", Cond.methodLink RX4 27 arraycopyName, Cond.native arraycopyName, Cond.static arraycopyName, Cond.initialized "java/lang/System", Cond.fieldLink RX4 21 "WinderLadders$State" "ladders" "[I", Cond.fieldLink RX4 34 "WinderLadders$State" "clockCount" "I"]
def wsX5_restore_r2 : List Cond := [Cond.fieldLink RX4 17 "WinderLadders$State" "clocks" "[LWinderLadders$Clock;", Cond.fieldLink RX4 42 "WinderLadders$State" "ladderCount" "I", Cond.fieldLink RX4 45 "WinderLadders$State" "days" "I", Cond.fieldLink RX4 48 "WinderLadders$State" "minutes" "I", Cond.methodLink RX4 38 yX0_copyFrom, Cond.instanceMethod yX0_copyFrom, Cond.selects RX0 yX0_copyFrom yX0_copyFrom, Cond.initialized RX0, Cond.code yX0_copyFrom cX0_copyFrom 2 none, Cond.fieldLink RX0 9 "WinderLadders$Clock" "house" "I", Cond.fieldLink RX0 15 "WinderLadders$Clock" "rungs" "I", Cond.fieldLink RX0 18 "WinderLadders$Clock" "drift" "I", Cond.fieldLink RX0 21 "WinderLadders$Clock" "screw" "I", Cond.fieldLink RX0 24 "WinderLadders$Clock" "off" "I", Cond.fieldLink RX0 27 "WinderLadders$Clock" "daysSinceWound" "I", Cond.fieldLink RX0 30 "WinderLadders$Clock" "timesWound" "I", Cond.fieldLink RX0 33 "WinderLadders$Clock" "goes" "Z", Cond.methodLink RX5 206 yX4_copyFrom, Cond.methodLink RX5 53 yX5_keptIfDone, Cond.instanceMethod yX5_keptIfDone, Cond.selects RX5 yX5_keptIfDone yX5_keptIfDone, Cond.initialized RX5, Cond.code yX5_keptIfDone cX5_keptIfDone 2 (some .int), Cond.methodLink RX5 209 yX1_keepPrepared]
def wsX5_restore_r3 : List Cond := [Cond.instanceMethod yX1_keepPrepared, Cond.selects RX1 yX1_keepPrepared yX1_keepPrepared, Cond.code yX1_keepPrepared cX1_keepPrepared 1 none, Cond.methodLink RX1 26 yX1_dropOldest, Cond.instanceMethod yX1_dropOldest, Cond.selects RX1 yX1_dropOldest yX1_dropOldest, Cond.code yX1_dropOldest cX1_dropOldest 3 none]
def wsX5_restore : List Cond := .code yX5_restore cX5_restore 2 (some .int) :: ((wsX5_restore_r1 ++ (wsX5_restore_r2 ++ wsX5_restore_r3)) ++ wsX50 ++ wsX40 ++ wsX10 ++ wsX00)
def wsX6_init : List Cond := .code yX6_init cX6_init 1 none :: ([.methodLink RX6 1 objectInit, .instanceMethod objectInit, .code objectInit ⟨#[0xb1]⟩ 1 none, .arrayClass .int, .fieldLink RX6 7 "WinderLaddersModel" "s" "[I", .fieldLink RX6 13 "WinderLaddersModel" "aside" "[I", .fieldLink RX6 16 "WinderLaddersModel" "before" "[I", .fieldLink RX6 19 "WinderLaddersModel" "slots" "[I", .arrayClass .boolean, .fieldLink RX6 22 "WinderLaddersModel" "isSaved" "[Z", .fieldLink RX6 26 "WinderLaddersModel" "pad" "[I", .fieldLink RX6 29 "WinderLaddersModel" "row" "[I", .fieldLink RX6 32 "WinderLaddersModel" "last" "[I"] ++ wsX60)
def wsX6_in : List Cond := .code yX6_in cX6_in 3 (some .boolean) :: ([])
def wsX6_size : List Cond := .code yX6_size cX6_size 1 (some .int) :: ([])
def wsX6_at : List Cond := .code yX6_at cX6_at 2 (some .int) :: ([])
def wsX6_isClock : List Cond := .code yX6_isClock cX6_isClock 2 (some .boolean) :: ([.fieldLink RX6 7 "WinderLaddersModel" "s" "[I", .methodLink RX6 35 yX6_in, .static yX6_in, .initialized RX6, .code yX6_in cX6_in 3 (some .boolean)] ++ wsX60)
def wsX6_know : List Cond := .code yX6_know cX6_know 2 none :: ([.fieldLink RX6 39 "WinderLaddersModel" "known" "I", .fieldLink RX6 16 "WinderLaddersModel" "before" "[I", .fieldLink RX6 7 "WinderLaddersModel" "s" "[I"] ++ wsX60)
def wsX6_rate : List Cond := .code yX6_rate cX6_rate 2 (some .int) :: ([.fieldLink RX6 7 "WinderLaddersModel" "s" "[I", .methodLink RX6 43 yX6_at, .static yX6_at, .initialized RX6, .code yX6_at cX6_at 2 (some .int)] ++ wsX60)
def wsX6_isOff : List Cond := .code yX6_isOff cX6_isOff 2 (some .boolean) :: ([.fieldLink RX6 7 "WinderLaddersModel" "s" "[I", .methodLink RX6 43 yX6_at, .static yX6_at, .initialized RX6, .code yX6_at cX6_at 2 (some .int), .methodLink RX6 47 yX6_size, .static yX6_size, .code yX6_size cX6_size 1 (some .int)] ++ wsX60)
def wsX6_ladderOf : List Cond := .code yX6_ladderOf cX6_ladderOf 5 (some .int) :: ([.fieldLink RX6 7 "WinderLaddersModel" "s" "[I", .methodLink RX6 43 yX6_at, .static yX6_at, .initialized RX6, .code yX6_at cX6_at 2 (some .int)] ++ wsX60)
def wsX6_canWind : List Cond := .code yX6_canWind cX6_canWind 2 (some .boolean) :: ([.fieldLink RX6 7 "WinderLaddersModel" "s" "[I", .methodLink RX6 43 yX6_at, .static yX6_at, .initialized RX6, .code yX6_at cX6_at 2 (some .int), .methodLink RX6 51 yX6_ladderOf, .instanceMethod yX6_ladderOf, .selects RX6 yX6_ladderOf yX6_ladderOf, .code yX6_ladderOf cX6_ladderOf 5 (some .int)] ++ wsX60)
def wsX6_day : List Cond := .code yX6_day cX6_day 2 none :: ([.fieldLink RX6 7 "WinderLaddersModel" "s" "[I", .constant RX6 57 (43200), .methodLink RX6 43 yX6_at, .static yX6_at, .initialized RX6, .code yX6_at cX6_at 2 (some .int), .methodLink RX6 54 yX6_rate, .instanceMethod yX6_rate, .selects RX6 yX6_rate yX6_rate, .code yX6_rate cX6_rate 2 (some .int)] ++ wsX60)
def wsX6_way : List Cond := .code yX6_way cX6_way 3 (some .int) :: ([.fieldLink RX6 7 "WinderLaddersModel" "s" "[I", .methodLink RX6 47 yX6_size, .static yX6_size, .initialized RX6, .code yX6_size cX6_size 1 (some .int)] ++ wsX60)
def wsX6_minutes : List Cond := .code yX6_minutes cX6_minutes 8 (some .int) :: ([.fieldLink RX6 58 "WinderLaddersModel" "inRow" "I", .fieldLink RX6 29 "WinderLaddersModel" "row" "[I", .fieldLink RX6 7 "WinderLaddersModel" "s" "[I", .methodLink RX6 51 yX6_ladderOf, .instanceMethod yX6_ladderOf, .selects RX6 yX6_ladderOf yX6_ladderOf, .initialized RX6, .code yX6_ladderOf cX6_ladderOf 5 (some .int), .methodLink RX6 43 yX6_at, .static yX6_at, .code yX6_at cX6_at 2 (some .int), .methodLink RX6 61 yX6_way, .instanceMethod yX6_way, .selects RX6 yX6_way yX6_way, .code yX6_way cX6_way 3 (some .int), .methodLink RX6 47 yX6_size, .static yX6_size, .code yX6_size cX6_size 1 (some .int), .methodLink RX6 64 yX6_canWind, .instanceMethod yX6_canWind, .selects RX6 yX6_canWind yX6_canWind, .code yX6_canWind cX6_canWind 2 (some .boolean)] ++ wsX60)
def wsX6_work : List Cond := .code yX6_work cX6_work 4 none :: ([.fieldLink RX6 7 "WinderLaddersModel" "s" "[I", .methodLink RX6 54 yX6_rate, .instanceMethod yX6_rate, .selects RX6 yX6_rate yX6_rate, .initialized RX6, .code yX6_rate cX6_rate 2 (some .int), .methodLink RX6 43 yX6_at, .static yX6_at, .code yX6_at cX6_at 2 (some .int), .methodLink RX6 47 yX6_size, .static yX6_size, .code yX6_size cX6_size 1 (some .int), .methodLink RX6 35 yX6_in, .static yX6_in, .code yX6_in cX6_in 3 (some .boolean)] ++ wsX60)
def wsX6_goes_r1 : List Cond := [Cond.fieldLink RX6 58 "WinderLaddersModel" "inRow" "I", Cond.fieldLink RX6 29 "WinderLaddersModel" "row" "[I", Cond.fieldLink RX6 7 "WinderLaddersModel" "s" "[I", Cond.methodLink RX6 68 yX6_minutes, Cond.instanceMethod yX6_minutes, Cond.selects RX6 yX6_minutes yX6_minutes, Cond.initialized RX6, Cond.code yX6_minutes cX6_minutes 8 (some .int), Cond.methodLink RX6 51 yX6_ladderOf, Cond.instanceMethod yX6_ladderOf, Cond.selects RX6 yX6_ladderOf yX6_ladderOf, Cond.code yX6_ladderOf cX6_ladderOf 5 (some .int), Cond.methodLink RX6 43 yX6_at, Cond.static yX6_at, Cond.code yX6_at cX6_at 2 (some .int), Cond.methodLink RX6 61 yX6_way, Cond.instanceMethod yX6_way, Cond.selects RX6 yX6_way yX6_way, Cond.code yX6_way cX6_way 3 (some .int), Cond.methodLink RX6 47 yX6_size, Cond.static yX6_size, Cond.code yX6_size cX6_size 1 (some .int), Cond.methodLink RX6 64 yX6_canWind, Cond.instanceMethod yX6_canWind]
def wsX6_goes_r2 : List Cond := [Cond.selects RX6 yX6_canWind yX6_canWind, Cond.code yX6_canWind cX6_canWind 2 (some .boolean), Cond.methodLink RX6 72 yX6_work, Cond.instanceMethod yX6_work, Cond.selects RX6 yX6_work yX6_work, Cond.code yX6_work cX6_work 4 none, Cond.methodLink RX6 54 yX6_rate, Cond.instanceMethod yX6_rate, Cond.selects RX6 yX6_rate yX6_rate, Cond.code yX6_rate cX6_rate 2 (some .int), Cond.methodLink RX6 35 yX6_in, Cond.static yX6_in, Cond.code yX6_in cX6_in 3 (some .boolean)]
def wsX6_goes : List Cond := .code yX6_goes cX6_goes 3 (some .int) :: ((wsX6_goes_r1 ++ wsX6_goes_r2) ++ wsX60)
def wsX6_layOut : List Cond := .code yX6_layOut cX6_layOut 5 (some .int) :: ([.fieldLink RX6 58 "WinderLaddersModel" "inRow" "I", .fieldLink RX6 7 "WinderLaddersModel" "s" "[I", .fieldLink RX6 29 "WinderLaddersModel" "row" "[I"] ++ wsX60)
def wsX6_hangFault : List Cond := .code yX6_hangFault cX6_hangFault 4 (some .int) :: ([.fieldLink RX6 7 "WinderLaddersModel" "s" "[I", .methodLink RX6 35 yX6_in, .static yX6_in, .initialized RX6, .code yX6_in cX6_in 3 (some .boolean)] ++ wsX60)
def wsX6_hangs : List Cond := .code yX6_hangs cX6_hangs 6 (some .int) :: ([.fieldLink RX6 7 "WinderLaddersModel" "s" "[I", .methodLink RX6 43 yX6_at, .static yX6_at, .initialized RX6, .code yX6_at cX6_at 2 (some .int)] ++ wsX60)
def wsX6_ladderFault : List Cond := .code yX6_ladderFault cX6_ladderFault 2 (some .int) :: ([.fieldLink RX6 7 "WinderLaddersModel" "s" "[I", .methodLink RX6 35 yX6_in, .static yX6_in, .initialized RX6, .code yX6_in cX6_in 3 (some .boolean)] ++ wsX60)
def wsX6_buys : List Cond := .code yX6_buys cX6_buys 2 (some .int) :: ([.fieldLink RX6 7 "WinderLaddersModel" "s" "[I"] ++ wsX60)
def wsX6_passFault : List Cond := .code yX6_passFault cX6_passFault 2 (some .int) :: ([.fieldLink RX6 7 "WinderLaddersModel" "s" "[I", .methodLink RX6 35 yX6_in, .static yX6_in, .initialized RX6, .code yX6_in cX6_in 3 (some .boolean)] ++ wsX60)
def wsX6_still : List Cond := .code yX6_still cX6_still 3 (some .int) :: ([.fieldLink RX6 7 "WinderLaddersModel" "s" "[I", .methodLink RX6 43 yX6_at, .static yX6_at, .initialized RX6, .code yX6_at cX6_at 2 (some .int)] ++ wsX60)
def wsX6_many : List Cond := .code yX6_many cX6_many 3 (some .int) :: ([])
def wsX6_passes : List Cond := .code yX6_passes cX6_passes 4 (some .int) :: ([.fieldLink RX6 7 "WinderLaddersModel" "s" "[I", .methodLink RX6 76 yX6_day, .instanceMethod yX6_day, .selects RX6 yX6_day yX6_day, .initialized RX6, .code yX6_day cX6_day 2 none, .constant RX6 57 (43200), .methodLink RX6 43 yX6_at, .static yX6_at, .code yX6_at cX6_at 2 (some .int), .methodLink RX6 54 yX6_rate, .instanceMethod yX6_rate, .selects RX6 yX6_rate yX6_rate, .code yX6_rate cX6_rate 2 (some .int), .methodLink RX6 79 yX6_still, .instanceMethod yX6_still, .selects RX6 yX6_still yX6_still, .code yX6_still cX6_still 3 (some .int), .methodLink RX6 82 yX6_many, .static yX6_many, .code yX6_many cX6_many 3 (some .int)] ++ wsX60)
def wsX6_changes : List Cond := .code yX6_changes cX6_changes 3 (some .int) :: ([.fieldLink RX6 7 "WinderLaddersModel" "s" "[I", .methodLink RX6 43 yX6_at, .static yX6_at, .initialized RX6, .code yX6_at cX6_at 2 (some .int), .methodLink RX6 79 yX6_still, .instanceMethod yX6_still, .selects RX6 yX6_still yX6_still, .code yX6_still cX6_still 3 (some .int), .methodLink RX6 82 yX6_many, .static yX6_many, .code yX6_many cX6_many 3 (some .int)] ++ wsX60)
def wsX6_set : List Cond := .code yX6_set cX6_set 5 (some .int) :: ([.fieldLink RX6 7 "WinderLaddersModel" "s" "[I", .methodLink RX6 35 yX6_in, .static yX6_in, .initialized RX6, .code yX6_in cX6_in 3 (some .boolean), .methodLink RX6 85 yX6_know, .instanceMethod yX6_know, .selects RX6 yX6_know yX6_know, .code yX6_know cX6_know 2 none, .fieldLink RX6 39 "WinderLaddersModel" "known" "I", .fieldLink RX6 16 "WinderLaddersModel" "before" "[I"] ++ wsX60)
def wsX6_hang : List Cond := .code yX6_hang cX6_hang 5 (some .int) :: ([.methodLink RX6 88 yX6_hangFault, .instanceMethod yX6_hangFault, .selects RX6 yX6_hangFault yX6_hangFault, .initialized RX6, .code yX6_hangFault cX6_hangFault 4 (some .int), .fieldLink RX6 7 "WinderLaddersModel" "s" "[I", .methodLink RX6 35 yX6_in, .static yX6_in, .code yX6_in cX6_in 3 (some .boolean), .methodLink RX6 85 yX6_know, .instanceMethod yX6_know, .selects RX6 yX6_know yX6_know, .code yX6_know cX6_know 2 none, .fieldLink RX6 39 "WinderLaddersModel" "known" "I", .fieldLink RX6 16 "WinderLaddersModel" "before" "[I", .methodLink RX6 92 yX6_hangs, .instanceMethod yX6_hangs, .selects RX6 yX6_hangs yX6_hangs, .code yX6_hangs cX6_hangs 6 (some .int), .methodLink RX6 43 yX6_at, .static yX6_at, .code yX6_at cX6_at 2 (some .int)] ++ wsX60)
def wsX6_ladder : List Cond := .code yX6_ladder cX6_ladder 3 (some .int) :: ([.methodLink RX6 95 yX6_ladderFault, .instanceMethod yX6_ladderFault, .selects RX6 yX6_ladderFault yX6_ladderFault, .initialized RX6, .code yX6_ladderFault cX6_ladderFault 2 (some .int), .fieldLink RX6 7 "WinderLaddersModel" "s" "[I", .methodLink RX6 35 yX6_in, .static yX6_in, .code yX6_in cX6_in 3 (some .boolean), .methodLink RX6 85 yX6_know, .instanceMethod yX6_know, .selects RX6 yX6_know yX6_know, .code yX6_know cX6_know 2 none, .fieldLink RX6 39 "WinderLaddersModel" "known" "I", .fieldLink RX6 16 "WinderLaddersModel" "before" "[I", .methodLink RX6 98 yX6_buys, .instanceMethod yX6_buys, .selects RX6 yX6_buys yX6_buys, .code yX6_buys cX6_buys 2 (some .int)] ++ wsX60)
def wsX6_screw : List Cond := .code yX6_screw cX6_screw 4 (some .int) :: ([.fieldLink RX6 7 "WinderLaddersModel" "s" "[I", .methodLink RX6 101 yX6_isClock, .instanceMethod yX6_isClock, .selects RX6 yX6_isClock yX6_isClock, .initialized RX6, .code yX6_isClock cX6_isClock 2 (some .boolean), .methodLink RX6 35 yX6_in, .static yX6_in, .code yX6_in cX6_in 3 (some .boolean), .methodLink RX6 43 yX6_at, .static yX6_at, .code yX6_at cX6_at 2 (some .int), .methodLink RX6 85 yX6_know, .instanceMethod yX6_know, .selects RX6 yX6_know yX6_know, .code yX6_know cX6_know 2 none, .fieldLink RX6 39 "WinderLaddersModel" "known" "I", .fieldLink RX6 16 "WinderLaddersModel" "before" "[I"] ++ wsX60)
def wsX6_round_r1 : List Cond := [Cond.methodLink RX6 104 yX6_layOut, Cond.instanceMethod yX6_layOut, Cond.selects RX6 yX6_layOut yX6_layOut, Cond.initialized RX6, Cond.code yX6_layOut cX6_layOut 5 (some .int), Cond.fieldLink RX6 58 "WinderLaddersModel" "inRow" "I", Cond.fieldLink RX6 7 "WinderLaddersModel" "s" "[I", Cond.fieldLink RX6 29 "WinderLaddersModel" "row" "[I", Cond.methodLink RX6 85 yX6_know, Cond.instanceMethod yX6_know, Cond.selects RX6 yX6_know yX6_know, Cond.code yX6_know cX6_know 2 none, Cond.fieldLink RX6 39 "WinderLaddersModel" "known" "I", Cond.fieldLink RX6 16 "WinderLaddersModel" "before" "[I", Cond.methodLink RX6 108 yX6_goes, Cond.instanceMethod yX6_goes, Cond.selects RX6 yX6_goes yX6_goes, Cond.code yX6_goes cX6_goes 3 (some .int), Cond.methodLink RX6 68 yX6_minutes, Cond.instanceMethod yX6_minutes, Cond.selects RX6 yX6_minutes yX6_minutes, Cond.code yX6_minutes cX6_minutes 8 (some .int), Cond.methodLink RX6 51 yX6_ladderOf, Cond.instanceMethod yX6_ladderOf]
def wsX6_round_r2 : List Cond := [Cond.selects RX6 yX6_ladderOf yX6_ladderOf, Cond.code yX6_ladderOf cX6_ladderOf 5 (some .int), Cond.methodLink RX6 43 yX6_at, Cond.static yX6_at, Cond.code yX6_at cX6_at 2 (some .int), Cond.methodLink RX6 61 yX6_way, Cond.instanceMethod yX6_way, Cond.selects RX6 yX6_way yX6_way, Cond.code yX6_way cX6_way 3 (some .int), Cond.methodLink RX6 47 yX6_size, Cond.static yX6_size, Cond.code yX6_size cX6_size 1 (some .int), Cond.methodLink RX6 64 yX6_canWind, Cond.instanceMethod yX6_canWind, Cond.selects RX6 yX6_canWind yX6_canWind, Cond.code yX6_canWind cX6_canWind 2 (some .boolean), Cond.methodLink RX6 72 yX6_work, Cond.instanceMethod yX6_work, Cond.selects RX6 yX6_work yX6_work, Cond.code yX6_work cX6_work 4 none, Cond.methodLink RX6 54 yX6_rate, Cond.instanceMethod yX6_rate, Cond.selects RX6 yX6_rate yX6_rate, Cond.code yX6_rate cX6_rate 2 (some .int)]
def wsX6_round_r3 : List Cond := [Cond.methodLink RX6 35 yX6_in, Cond.static yX6_in, Cond.code yX6_in cX6_in 3 (some .boolean)]
def wsX6_round : List Cond := .code yX6_round cX6_round 3 (some .int) :: ((wsX6_round_r1 ++ (wsX6_round_r2 ++ wsX6_round_r3)) ++ wsX60)
def wsX6_pass_r1 : List Cond := [Cond.methodLink RX6 111 yX6_passFault, Cond.instanceMethod yX6_passFault, Cond.selects RX6 yX6_passFault yX6_passFault, Cond.initialized RX6, Cond.code yX6_passFault cX6_passFault 2 (some .int), Cond.fieldLink RX6 7 "WinderLaddersModel" "s" "[I", Cond.methodLink RX6 35 yX6_in, Cond.static yX6_in, Cond.code yX6_in cX6_in 3 (some .boolean), Cond.methodLink RX6 85 yX6_know, Cond.instanceMethod yX6_know, Cond.selects RX6 yX6_know yX6_know, Cond.code yX6_know cX6_know 2 none, Cond.fieldLink RX6 39 "WinderLaddersModel" "known" "I", Cond.fieldLink RX6 16 "WinderLaddersModel" "before" "[I", Cond.methodLink RX6 114 yX6_passes, Cond.instanceMethod yX6_passes, Cond.selects RX6 yX6_passes yX6_passes, Cond.code yX6_passes cX6_passes 4 (some .int), Cond.methodLink RX6 76 yX6_day, Cond.instanceMethod yX6_day, Cond.selects RX6 yX6_day yX6_day, Cond.code yX6_day cX6_day 2 none, Cond.constant RX6 57 (43200)]
def wsX6_pass_r2 : List Cond := [Cond.methodLink RX6 43 yX6_at, Cond.static yX6_at, Cond.code yX6_at cX6_at 2 (some .int), Cond.methodLink RX6 54 yX6_rate, Cond.instanceMethod yX6_rate, Cond.selects RX6 yX6_rate yX6_rate, Cond.code yX6_rate cX6_rate 2 (some .int), Cond.methodLink RX6 79 yX6_still, Cond.instanceMethod yX6_still, Cond.selects RX6 yX6_still yX6_still, Cond.code yX6_still cX6_still 3 (some .int), Cond.methodLink RX6 82 yX6_many, Cond.static yX6_many, Cond.code yX6_many cX6_many 3 (some .int)]
def wsX6_pass : List Cond := .code yX6_pass cX6_pass 3 (some .int) :: ((wsX6_pass_r1 ++ wsX6_pass_r2) ++ wsX60)
def wsX6_change_r1 : List Cond := [Cond.methodLink RX6 35 yX6_in, Cond.static yX6_in, Cond.initialized RX6, Cond.code yX6_in cX6_in 3 (some .boolean), Cond.methodLink RX6 85 yX6_know, Cond.instanceMethod yX6_know, Cond.selects RX6 yX6_know yX6_know, Cond.code yX6_know cX6_know 2 none, Cond.fieldLink RX6 39 "WinderLaddersModel" "known" "I", Cond.fieldLink RX6 16 "WinderLaddersModel" "before" "[I", Cond.fieldLink RX6 7 "WinderLaddersModel" "s" "[I", Cond.methodLink RX6 117 yX6_changes, Cond.instanceMethod yX6_changes, Cond.selects RX6 yX6_changes yX6_changes, Cond.code yX6_changes cX6_changes 3 (some .int), Cond.methodLink RX6 43 yX6_at, Cond.static yX6_at, Cond.code yX6_at cX6_at 2 (some .int), Cond.methodLink RX6 79 yX6_still, Cond.instanceMethod yX6_still, Cond.selects RX6 yX6_still yX6_still, Cond.code yX6_still cX6_still 3 (some .int), Cond.methodLink RX6 82 yX6_many, Cond.static yX6_many]
def wsX6_change_r2 : List Cond := [Cond.code yX6_many cX6_many 3 (some .int)]
def wsX6_change : List Cond := .code yX6_change cX6_change 2 (some .int) :: ((wsX6_change_r1 ++ wsX6_change_r2) ++ wsX60)
def wsX6_of_r1 : List Cond := [Cond.fieldLink RX6 7 "WinderLaddersModel" "s" "[I", Cond.constant RX6 120 (1000000000), Cond.methodLink RX6 101 yX6_isClock, Cond.instanceMethod yX6_isClock, Cond.selects RX6 yX6_isClock yX6_isClock, Cond.initialized RX6, Cond.code yX6_isClock cX6_isClock 2 (some .boolean), Cond.methodLink RX6 35 yX6_in, Cond.static yX6_in, Cond.code yX6_in cX6_in 3 (some .boolean), Cond.methodLink RX6 43 yX6_at, Cond.static yX6_at, Cond.code yX6_at cX6_at 2 (some .int), Cond.methodLink RX6 121 yX6_isOff, Cond.instanceMethod yX6_isOff, Cond.selects RX6 yX6_isOff yX6_isOff, Cond.code yX6_isOff cX6_isOff 2 (some .boolean), Cond.methodLink RX6 47 yX6_size, Cond.static yX6_size, Cond.code yX6_size cX6_size 1 (some .int), Cond.methodLink RX6 51 yX6_ladderOf, Cond.instanceMethod yX6_ladderOf, Cond.selects RX6 yX6_ladderOf yX6_ladderOf, Cond.code yX6_ladderOf cX6_ladderOf 5 (some .int)]
def wsX6_of_r2 : List Cond := [Cond.methodLink RX6 64 yX6_canWind, Cond.instanceMethod yX6_canWind, Cond.selects RX6 yX6_canWind yX6_canWind, Cond.code yX6_canWind cX6_canWind 2 (some .boolean)]
def wsX6_of : List Cond := .code yX6_of cX6_of 3 (some .int) :: ((wsX6_of_r1 ++ wsX6_of_r2) ++ wsX60)
def wsX6_ofLadder : List Cond := .code yX6_ofLadder cX6_ofLadder 2 (some .int) :: ([.fieldLink RX6 7 "WinderLaddersModel" "s" "[I", .methodLink RX6 35 yX6_in, .static yX6_in, .initialized RX6, .code yX6_in cX6_in 3 (some .boolean)] ++ wsX60)
def wsX6_sum : List Cond := .code yX6_sum cX6_sum 4 (some .int) :: ([.fieldLink RX6 7 "WinderLaddersModel" "s" "[I", .methodLink RX6 43 yX6_at, .static yX6_at, .initialized RX6, .code yX6_at cX6_at 2 (some .int), .methodLink RX6 121 yX6_isOff, .instanceMethod yX6_isOff, .selects RX6 yX6_isOff yX6_isOff, .code yX6_isOff cX6_isOff 2 (some .boolean), .methodLink RX6 47 yX6_size, .static yX6_size, .code yX6_size cX6_size 1 (some .int), .methodLink RX6 64 yX6_canWind, .instanceMethod yX6_canWind, .selects RX6 yX6_canWind yX6_canWind, .code yX6_canWind cX6_canWind 2 (some .boolean), .methodLink RX6 51 yX6_ladderOf, .instanceMethod yX6_ladderOf, .selects RX6 yX6_ladderOf yX6_ladderOf, .code yX6_ladderOf cX6_ladderOf 5 (some .int)] ++ wsX60)
def wsX6_count_r1 : List Cond := [Cond.fieldLink RX6 7 "WinderLaddersModel" "s" "[I", Cond.fieldLink RX6 127 "WinderLaddersModel" "length" "I", Cond.fieldLink RX6 39 "WinderLaddersModel" "known" "I", Cond.methodLink RX6 79 yX6_still, Cond.instanceMethod yX6_still, Cond.selects RX6 yX6_still yX6_still, Cond.initialized RX6, Cond.code yX6_still cX6_still 3 (some .int), Cond.methodLink RX6 43 yX6_at, Cond.static yX6_at, Cond.code yX6_at cX6_at 2 (some .int), Cond.methodLink RX6 124 yX6_sum, Cond.instanceMethod yX6_sum, Cond.selects RX6 yX6_sum yX6_sum, Cond.code yX6_sum cX6_sum 4 (some .int), Cond.methodLink RX6 121 yX6_isOff, Cond.instanceMethod yX6_isOff, Cond.selects RX6 yX6_isOff yX6_isOff, Cond.code yX6_isOff cX6_isOff 2 (some .boolean), Cond.methodLink RX6 47 yX6_size, Cond.static yX6_size, Cond.code yX6_size cX6_size 1 (some .int), Cond.methodLink RX6 64 yX6_canWind, Cond.instanceMethod yX6_canWind]
def wsX6_count_r2 : List Cond := [Cond.selects RX6 yX6_canWind yX6_canWind, Cond.code yX6_canWind cX6_canWind 2 (some .boolean), Cond.methodLink RX6 51 yX6_ladderOf, Cond.instanceMethod yX6_ladderOf, Cond.selects RX6 yX6_ladderOf yX6_ladderOf, Cond.code yX6_ladderOf cX6_ladderOf 5 (some .int)]
def wsX6_count : List Cond := .code yX6_count cX6_count 2 (some .int) :: ((wsX6_count_r1 ++ wsX6_count_r2) ++ wsX60)
def wsX6_takes_r1 : List Cond := [Cond.methodLink RX6 104 yX6_layOut, Cond.instanceMethod yX6_layOut, Cond.selects RX6 yX6_layOut yX6_layOut, Cond.initialized RX6, Cond.code yX6_layOut cX6_layOut 5 (some .int), Cond.fieldLink RX6 58 "WinderLaddersModel" "inRow" "I", Cond.fieldLink RX6 7 "WinderLaddersModel" "s" "[I", Cond.fieldLink RX6 29 "WinderLaddersModel" "row" "[I", Cond.methodLink RX6 68 yX6_minutes, Cond.instanceMethod yX6_minutes, Cond.selects RX6 yX6_minutes yX6_minutes, Cond.code yX6_minutes cX6_minutes 8 (some .int), Cond.methodLink RX6 51 yX6_ladderOf, Cond.instanceMethod yX6_ladderOf, Cond.selects RX6 yX6_ladderOf yX6_ladderOf, Cond.code yX6_ladderOf cX6_ladderOf 5 (some .int), Cond.methodLink RX6 43 yX6_at, Cond.static yX6_at, Cond.code yX6_at cX6_at 2 (some .int), Cond.methodLink RX6 61 yX6_way, Cond.instanceMethod yX6_way, Cond.selects RX6 yX6_way yX6_way, Cond.code yX6_way cX6_way 3 (some .int), Cond.methodLink RX6 47 yX6_size]
def wsX6_takes_r2 : List Cond := [Cond.static yX6_size, Cond.code yX6_size cX6_size 1 (some .int), Cond.methodLink RX6 64 yX6_canWind, Cond.instanceMethod yX6_canWind, Cond.selects RX6 yX6_canWind yX6_canWind, Cond.code yX6_canWind cX6_canWind 2 (some .boolean)]
def wsX6_takes : List Cond := .code yX6_takes cX6_takes 3 (some .int) :: ((wsX6_takes_r1 ++ wsX6_takes_r2) ++ wsX60)
def wsX6_keepClock : List Cond := .code yX6_keepClock cX6_keepClock 3 none :: ([.fieldLink RX6 13 "WinderLaddersModel" "aside" "[I", .fieldLink RX6 7 "WinderLaddersModel" "s" "[I", .methodLink RX6 43 yX6_at, .static yX6_at, .initialized RX6, .code yX6_at cX6_at 2 (some .int)] ++ wsX60)
def wsX6_lasts_r1 : List Cond := [Cond.fieldLink RX6 7 "WinderLaddersModel" "s" "[I", Cond.fieldLink RX6 13 "WinderLaddersModel" "aside" "[I", Cond.methodLink RX6 101 yX6_isClock, Cond.instanceMethod yX6_isClock, Cond.selects RX6 yX6_isClock yX6_isClock, Cond.initialized RX6, Cond.code yX6_isClock cX6_isClock 2 (some .boolean), Cond.methodLink RX6 35 yX6_in, Cond.static yX6_in, Cond.code yX6_in cX6_in 3 (some .boolean), Cond.methodLink RX6 130 yX6_keepClock, Cond.instanceMethod yX6_keepClock, Cond.selects RX6 yX6_keepClock yX6_keepClock, Cond.code yX6_keepClock cX6_keepClock 3 none, Cond.methodLink RX6 43 yX6_at, Cond.static yX6_at, Cond.code yX6_at cX6_at 2 (some .int), Cond.methodLink RX6 121 yX6_isOff, Cond.instanceMethod yX6_isOff, Cond.selects RX6 yX6_isOff yX6_isOff, Cond.code yX6_isOff cX6_isOff 2 (some .boolean), Cond.methodLink RX6 47 yX6_size, Cond.static yX6_size, Cond.code yX6_size cX6_size 1 (some .int)]
def wsX6_lasts_r2 : List Cond := [Cond.methodLink RX6 76 yX6_day, Cond.instanceMethod yX6_day, Cond.selects RX6 yX6_day yX6_day, Cond.code yX6_day cX6_day 2 none, Cond.constant RX6 57 (43200), Cond.methodLink RX6 54 yX6_rate, Cond.instanceMethod yX6_rate, Cond.selects RX6 yX6_rate yX6_rate, Cond.code yX6_rate cX6_rate 2 (some .int)]
def wsX6_lasts : List Cond := .code yX6_lasts cX6_lasts 4 (some .int) :: ((wsX6_lasts_r1 ++ wsX6_lasts_r2) ++ wsX60)
def wsX6_needs_r1 : List Cond := [Cond.fieldLink RX6 7 "WinderLaddersModel" "s" "[I", Cond.fieldLink RX6 32 "WinderLaddersModel" "last" "[I", Cond.methodLink RX6 133 yX6_lasts, Cond.instanceMethod yX6_lasts, Cond.selects RX6 yX6_lasts yX6_lasts, Cond.initialized RX6, Cond.code yX6_lasts cX6_lasts 4 (some .int), Cond.fieldLink RX6 13 "WinderLaddersModel" "aside" "[I", Cond.methodLink RX6 101 yX6_isClock, Cond.instanceMethod yX6_isClock, Cond.selects RX6 yX6_isClock yX6_isClock, Cond.code yX6_isClock cX6_isClock 2 (some .boolean), Cond.methodLink RX6 35 yX6_in, Cond.static yX6_in, Cond.code yX6_in cX6_in 3 (some .boolean), Cond.methodLink RX6 130 yX6_keepClock, Cond.instanceMethod yX6_keepClock, Cond.selects RX6 yX6_keepClock yX6_keepClock, Cond.code yX6_keepClock cX6_keepClock 3 none, Cond.methodLink RX6 43 yX6_at, Cond.static yX6_at, Cond.code yX6_at cX6_at 2 (some .int), Cond.methodLink RX6 121 yX6_isOff, Cond.instanceMethod yX6_isOff]
def wsX6_needs_r2 : List Cond := [Cond.selects RX6 yX6_isOff yX6_isOff, Cond.code yX6_isOff cX6_isOff 2 (some .boolean), Cond.methodLink RX6 47 yX6_size, Cond.static yX6_size, Cond.code yX6_size cX6_size 1 (some .int), Cond.methodLink RX6 76 yX6_day, Cond.instanceMethod yX6_day, Cond.selects RX6 yX6_day yX6_day, Cond.code yX6_day cX6_day 2 none, Cond.constant RX6 57 (43200), Cond.methodLink RX6 54 yX6_rate, Cond.instanceMethod yX6_rate, Cond.selects RX6 yX6_rate yX6_rate, Cond.code yX6_rate cX6_rate 2 (some .int)]
def wsX6_needs : List Cond := .code yX6_needs cX6_needs 5 (some .int) :: ((wsX6_needs_r1 ++ wsX6_needs_r2) ++ wsX60)
def wsX6_ladderFor : List Cond := .code yX6_ladderFor cX6_ladderFor 3 (some .int) :: ([.fieldLink RX6 7 "WinderLaddersModel" "s" "[I", .methodLink RX6 64 yX6_canWind, .instanceMethod yX6_canWind, .selects RX6 yX6_canWind yX6_canWind, .initialized RX6, .code yX6_canWind cX6_canWind 2 (some .boolean), .methodLink RX6 43 yX6_at, .static yX6_at, .code yX6_at cX6_at 2 (some .int), .methodLink RX6 51 yX6_ladderOf, .instanceMethod yX6_ladderOf, .selects RX6 yX6_ladderOf yX6_ladderOf, .code yX6_ladderOf cX6_ladderOf 5 (some .int)] ++ wsX60)
def wsX6_wayRound_r1 : List Cond := [Cond.methodLink RX6 104 yX6_layOut, Cond.instanceMethod yX6_layOut, Cond.selects RX6 yX6_layOut yX6_layOut, Cond.initialized RX6, Cond.code yX6_layOut cX6_layOut 5 (some .int), Cond.fieldLink RX6 58 "WinderLaddersModel" "inRow" "I", Cond.fieldLink RX6 7 "WinderLaddersModel" "s" "[I", Cond.fieldLink RX6 29 "WinderLaddersModel" "row" "[I", Cond.methodLink RX6 68 yX6_minutes, Cond.instanceMethod yX6_minutes, Cond.selects RX6 yX6_minutes yX6_minutes, Cond.code yX6_minutes cX6_minutes 8 (some .int), Cond.methodLink RX6 51 yX6_ladderOf, Cond.instanceMethod yX6_ladderOf, Cond.selects RX6 yX6_ladderOf yX6_ladderOf, Cond.code yX6_ladderOf cX6_ladderOf 5 (some .int), Cond.methodLink RX6 43 yX6_at, Cond.static yX6_at, Cond.code yX6_at cX6_at 2 (some .int), Cond.methodLink RX6 61 yX6_way, Cond.instanceMethod yX6_way, Cond.selects RX6 yX6_way yX6_way, Cond.code yX6_way cX6_way 3 (some .int), Cond.methodLink RX6 47 yX6_size]
def wsX6_wayRound_r2 : List Cond := [Cond.static yX6_size, Cond.code yX6_size cX6_size 1 (some .int), Cond.methodLink RX6 64 yX6_canWind, Cond.instanceMethod yX6_canWind, Cond.selects RX6 yX6_canWind yX6_canWind, Cond.code yX6_canWind cX6_canWind 2 (some .boolean)]
def wsX6_wayRound : List Cond := .code yX6_wayRound cX6_wayRound 6 (some .int) :: ((wsX6_wayRound_r1 ++ wsX6_wayRound_r2) ++ wsX60)
def wsX6_put : List Cond := .code yX6_put cX6_put 8 (some .int) :: ([.constantLong RX6 136 (255), .fieldLink RX6 127 "WinderLaddersModel" "length" "I", .fieldLink RX6 26 "WinderLaddersModel" "pad" "[I", .methodLink RX6 35 yX6_in, .static yX6_in, .initialized RX6, .code yX6_in cX6_in 3 (some .boolean)] ++ wsX60)
def wsX6_wipe : List Cond := .code yX6_wipe cX6_wipe 2 (some .int) :: ([.fieldLink RX6 127 "WinderLaddersModel" "length" "I"] ++ wsX60)
def wsX6_sign : List Cond := .code yX6_sign cX6_sign 4 (some .int) :: ([.fieldLink RX6 138 "WinderLaddersModel" "place" "I", .fieldLink RX6 127 "WinderLaddersModel" "length" "I", .fieldLink RX6 26 "WinderLaddersModel" "pad" "[I", .fieldLink RX6 141 "WinderLaddersModel" "isWrong" "Z", .methodLink RX6 35 yX6_in, .static yX6_in, .initialized RX6, .code yX6_in cX6_in 3 (some .boolean)] ++ wsX60)
def wsX6_isNext : List Cond := .code yX6_isNext cX6_isNext 3 (some .boolean) :: ([.fieldLink RX6 141 "WinderLaddersModel" "isWrong" "Z", .fieldLink RX6 138 "WinderLaddersModel" "place" "I", .fieldLink RX6 127 "WinderLaddersModel" "length" "I", .fieldLink RX6 26 "WinderLaddersModel" "pad" "[I", .methodLink RX6 35 yX6_in, .static yX6_in, .initialized RX6, .code yX6_in cX6_in 3 (some .boolean)] ++ wsX60)
def wsX6_number : List Cond := .code yX6_number cX6_number 2 (some .int) :: ([.methodLink RX6 145 yX6_sign, .instanceMethod yX6_sign, .selects RX6 yX6_sign yX6_sign, .initialized RX6, .code yX6_sign cX6_sign 4 (some .int), .fieldLink RX6 138 "WinderLaddersModel" "place" "I", .fieldLink RX6 127 "WinderLaddersModel" "length" "I", .fieldLink RX6 26 "WinderLaddersModel" "pad" "[I", .fieldLink RX6 141 "WinderLaddersModel" "isWrong" "Z", .methodLink RX6 35 yX6_in, .static yX6_in, .code yX6_in cX6_in 3 (some .boolean), .methodLink RX6 148 yX6_isNext, .instanceMethod yX6_isNext, .selects RX6 yX6_isNext yX6_isNext, .code yX6_isNext cX6_isNext 3 (some .boolean)] ++ wsX60)
def wsX6_order_r1 : List Cond := [Cond.fieldLink RX6 138 "WinderLaddersModel" "place" "I", Cond.fieldLink RX6 127 "WinderLaddersModel" "length" "I", Cond.fieldLink RX6 26 "WinderLaddersModel" "pad" "[I", Cond.fieldLink RX6 141 "WinderLaddersModel" "isWrong" "Z", Cond.fieldLink RX6 152 "WinderLaddersModel" "letter" "I", Cond.fieldLink RX6 158 "WinderLaddersModel" "one" "I", Cond.fieldLink RX6 161 "WinderLaddersModel" "two" "I", Cond.fieldLink RX6 164 "WinderLaddersModel" "three" "I", Cond.fieldLink RX6 29 "WinderLaddersModel" "row" "[I", Cond.fieldLink RX6 58 "WinderLaddersModel" "inRow" "I", Cond.methodLink RX6 155 yX6_number, Cond.instanceMethod yX6_number, Cond.selects RX6 yX6_number yX6_number, Cond.initialized RX6, Cond.code yX6_number cX6_number 2 (some .int), Cond.methodLink RX6 145 yX6_sign, Cond.instanceMethod yX6_sign, Cond.selects RX6 yX6_sign yX6_sign, Cond.code yX6_sign cX6_sign 4 (some .int), Cond.methodLink RX6 35 yX6_in, Cond.static yX6_in, Cond.code yX6_in cX6_in 3 (some .boolean), Cond.methodLink RX6 148 yX6_isNext, Cond.instanceMethod yX6_isNext]
def wsX6_order_r2 : List Cond := [Cond.selects RX6 yX6_isNext yX6_isNext, Cond.code yX6_isNext cX6_isNext 3 (some .boolean)]
def wsX6_order : List Cond := .code yX6_order cX6_order 5 none :: ((wsX6_order_r1 ++ wsX6_order_r2) ++ wsX60)
def wsX6_rowFault : List Cond := .code yX6_rowFault cX6_rowFault 3 (some .int) :: ([.fieldLink RX6 58 "WinderLaddersModel" "inRow" "I", .fieldLink RX6 29 "WinderLaddersModel" "row" "[I", .methodLink RX6 101 yX6_isClock, .instanceMethod yX6_isClock, .selects RX6 yX6_isClock yX6_isClock, .initialized RX6, .code yX6_isClock cX6_isClock 2 (some .boolean), .fieldLink RX6 7 "WinderLaddersModel" "s" "[I", .methodLink RX6 35 yX6_in, .static yX6_in, .code yX6_in cX6_in 3 (some .boolean)] ++ wsX60)
def wsX6_does_r1 : List Cond := [Cond.fieldLink RX6 152 "WinderLaddersModel" "letter" "I", Cond.fieldLink RX6 158 "WinderLaddersModel" "one" "I", Cond.fieldLink RX6 161 "WinderLaddersModel" "two" "I", Cond.fieldLink RX6 164 "WinderLaddersModel" "three" "I", Cond.methodLink RX6 88 yX6_hangFault, Cond.instanceMethod yX6_hangFault, Cond.selects RX6 yX6_hangFault yX6_hangFault, Cond.initialized RX6, Cond.code yX6_hangFault cX6_hangFault 4 (some .int), Cond.fieldLink RX6 7 "WinderLaddersModel" "s" "[I", Cond.methodLink RX6 35 yX6_in, Cond.static yX6_in, Cond.code yX6_in cX6_in 3 (some .boolean), Cond.methodLink RX6 95 yX6_ladderFault, Cond.instanceMethod yX6_ladderFault, Cond.selects RX6 yX6_ladderFault yX6_ladderFault, Cond.code yX6_ladderFault cX6_ladderFault 2 (some .int), Cond.methodLink RX6 167 yX6_rowFault, Cond.instanceMethod yX6_rowFault, Cond.selects RX6 yX6_rowFault yX6_rowFault, Cond.code yX6_rowFault cX6_rowFault 3 (some .int), Cond.fieldLink RX6 58 "WinderLaddersModel" "inRow" "I", Cond.fieldLink RX6 29 "WinderLaddersModel" "row" "[I", Cond.methodLink RX6 101 yX6_isClock]
def wsX6_does_r2 : List Cond := [Cond.instanceMethod yX6_isClock, Cond.selects RX6 yX6_isClock yX6_isClock, Cond.code yX6_isClock cX6_isClock 2 (some .boolean), Cond.methodLink RX6 111 yX6_passFault, Cond.instanceMethod yX6_passFault, Cond.selects RX6 yX6_passFault yX6_passFault, Cond.code yX6_passFault cX6_passFault 2 (some .int), Cond.methodLink RX6 92 yX6_hangs, Cond.instanceMethod yX6_hangs, Cond.selects RX6 yX6_hangs yX6_hangs, Cond.code yX6_hangs cX6_hangs 6 (some .int), Cond.methodLink RX6 43 yX6_at, Cond.static yX6_at, Cond.code yX6_at cX6_at 2 (some .int), Cond.methodLink RX6 98 yX6_buys, Cond.instanceMethod yX6_buys, Cond.selects RX6 yX6_buys yX6_buys, Cond.code yX6_buys cX6_buys 2 (some .int), Cond.methodLink RX6 108 yX6_goes, Cond.instanceMethod yX6_goes, Cond.selects RX6 yX6_goes yX6_goes, Cond.code yX6_goes cX6_goes 3 (some .int), Cond.methodLink RX6 68 yX6_minutes, Cond.instanceMethod yX6_minutes]
def wsX6_does_r3 : List Cond := [Cond.selects RX6 yX6_minutes yX6_minutes, Cond.code yX6_minutes cX6_minutes 8 (some .int), Cond.methodLink RX6 51 yX6_ladderOf, Cond.instanceMethod yX6_ladderOf, Cond.selects RX6 yX6_ladderOf yX6_ladderOf, Cond.code yX6_ladderOf cX6_ladderOf 5 (some .int), Cond.methodLink RX6 61 yX6_way, Cond.instanceMethod yX6_way, Cond.selects RX6 yX6_way yX6_way, Cond.code yX6_way cX6_way 3 (some .int), Cond.methodLink RX6 47 yX6_size, Cond.static yX6_size, Cond.code yX6_size cX6_size 1 (some .int), Cond.methodLink RX6 64 yX6_canWind, Cond.instanceMethod yX6_canWind, Cond.selects RX6 yX6_canWind yX6_canWind, Cond.code yX6_canWind cX6_canWind 2 (some .boolean), Cond.methodLink RX6 72 yX6_work, Cond.instanceMethod yX6_work, Cond.selects RX6 yX6_work yX6_work, Cond.code yX6_work cX6_work 4 none, Cond.methodLink RX6 54 yX6_rate, Cond.instanceMethod yX6_rate, Cond.selects RX6 yX6_rate yX6_rate]
def wsX6_does_r4 : List Cond := [Cond.code yX6_rate cX6_rate 2 (some .int), Cond.methodLink RX6 114 yX6_passes, Cond.instanceMethod yX6_passes, Cond.selects RX6 yX6_passes yX6_passes, Cond.code yX6_passes cX6_passes 4 (some .int), Cond.methodLink RX6 76 yX6_day, Cond.instanceMethod yX6_day, Cond.selects RX6 yX6_day yX6_day, Cond.code yX6_day cX6_day 2 none, Cond.constant RX6 57 (43200), Cond.methodLink RX6 79 yX6_still, Cond.instanceMethod yX6_still, Cond.selects RX6 yX6_still yX6_still, Cond.code yX6_still cX6_still 3 (some .int), Cond.methodLink RX6 82 yX6_many, Cond.static yX6_many, Cond.code yX6_many cX6_many 3 (some .int), Cond.methodLink RX6 117 yX6_changes, Cond.instanceMethod yX6_changes, Cond.selects RX6 yX6_changes yX6_changes, Cond.code yX6_changes cX6_changes 3 (some .int)]
def wsX6_does : List Cond := .code yX6_does cX6_does 4 (some .boolean) :: ((wsX6_does_r1 ++ (wsX6_does_r2 ++ (wsX6_does_r3 ++ wsX6_does_r4))) ++ wsX60)
def wsX6_go_r1 : List Cond := [Cond.fieldLink RX6 138 "WinderLaddersModel" "place" "I", Cond.fieldLink RX6 141 "WinderLaddersModel" "isWrong" "Z", Cond.fieldLink RX6 127 "WinderLaddersModel" "length" "I", Cond.methodLink RX6 170 yX6_order, Cond.instanceMethod yX6_order, Cond.selects RX6 yX6_order yX6_order, Cond.initialized RX6, Cond.code yX6_order cX6_order 5 none, Cond.fieldLink RX6 26 "WinderLaddersModel" "pad" "[I", Cond.fieldLink RX6 152 "WinderLaddersModel" "letter" "I", Cond.fieldLink RX6 158 "WinderLaddersModel" "one" "I", Cond.fieldLink RX6 161 "WinderLaddersModel" "two" "I", Cond.fieldLink RX6 164 "WinderLaddersModel" "three" "I", Cond.fieldLink RX6 29 "WinderLaddersModel" "row" "[I", Cond.fieldLink RX6 58 "WinderLaddersModel" "inRow" "I", Cond.methodLink RX6 155 yX6_number, Cond.instanceMethod yX6_number, Cond.selects RX6 yX6_number yX6_number, Cond.code yX6_number cX6_number 2 (some .int), Cond.methodLink RX6 145 yX6_sign, Cond.instanceMethod yX6_sign, Cond.selects RX6 yX6_sign yX6_sign, Cond.code yX6_sign cX6_sign 4 (some .int), Cond.methodLink RX6 35 yX6_in]
def wsX6_go_r2 : List Cond := [Cond.static yX6_in, Cond.code yX6_in cX6_in 3 (some .boolean), Cond.methodLink RX6 148 yX6_isNext, Cond.instanceMethod yX6_isNext, Cond.selects RX6 yX6_isNext yX6_isNext, Cond.code yX6_isNext cX6_isNext 3 (some .boolean), Cond.methodLink RX6 173 yX6_does, Cond.instanceMethod yX6_does, Cond.selects RX6 yX6_does yX6_does, Cond.code yX6_does cX6_does 4 (some .boolean), Cond.methodLink RX6 88 yX6_hangFault, Cond.instanceMethod yX6_hangFault, Cond.selects RX6 yX6_hangFault yX6_hangFault, Cond.code yX6_hangFault cX6_hangFault 4 (some .int), Cond.fieldLink RX6 7 "WinderLaddersModel" "s" "[I", Cond.methodLink RX6 95 yX6_ladderFault, Cond.instanceMethod yX6_ladderFault, Cond.selects RX6 yX6_ladderFault yX6_ladderFault, Cond.code yX6_ladderFault cX6_ladderFault 2 (some .int), Cond.methodLink RX6 167 yX6_rowFault, Cond.instanceMethod yX6_rowFault, Cond.selects RX6 yX6_rowFault yX6_rowFault, Cond.code yX6_rowFault cX6_rowFault 3 (some .int), Cond.methodLink RX6 101 yX6_isClock]
def wsX6_go_r3 : List Cond := [Cond.instanceMethod yX6_isClock, Cond.selects RX6 yX6_isClock yX6_isClock, Cond.code yX6_isClock cX6_isClock 2 (some .boolean), Cond.methodLink RX6 111 yX6_passFault, Cond.instanceMethod yX6_passFault, Cond.selects RX6 yX6_passFault yX6_passFault, Cond.code yX6_passFault cX6_passFault 2 (some .int), Cond.methodLink RX6 92 yX6_hangs, Cond.instanceMethod yX6_hangs, Cond.selects RX6 yX6_hangs yX6_hangs, Cond.code yX6_hangs cX6_hangs 6 (some .int), Cond.methodLink RX6 43 yX6_at, Cond.static yX6_at, Cond.code yX6_at cX6_at 2 (some .int), Cond.methodLink RX6 98 yX6_buys, Cond.instanceMethod yX6_buys, Cond.selects RX6 yX6_buys yX6_buys, Cond.code yX6_buys cX6_buys 2 (some .int), Cond.methodLink RX6 108 yX6_goes, Cond.instanceMethod yX6_goes, Cond.selects RX6 yX6_goes yX6_goes, Cond.code yX6_goes cX6_goes 3 (some .int), Cond.methodLink RX6 68 yX6_minutes, Cond.instanceMethod yX6_minutes]
def wsX6_go_r4 : List Cond := [Cond.selects RX6 yX6_minutes yX6_minutes, Cond.code yX6_minutes cX6_minutes 8 (some .int), Cond.methodLink RX6 51 yX6_ladderOf, Cond.instanceMethod yX6_ladderOf, Cond.selects RX6 yX6_ladderOf yX6_ladderOf, Cond.code yX6_ladderOf cX6_ladderOf 5 (some .int), Cond.methodLink RX6 61 yX6_way, Cond.instanceMethod yX6_way, Cond.selects RX6 yX6_way yX6_way, Cond.code yX6_way cX6_way 3 (some .int), Cond.methodLink RX6 47 yX6_size, Cond.static yX6_size, Cond.code yX6_size cX6_size 1 (some .int), Cond.methodLink RX6 64 yX6_canWind, Cond.instanceMethod yX6_canWind, Cond.selects RX6 yX6_canWind yX6_canWind, Cond.code yX6_canWind cX6_canWind 2 (some .boolean), Cond.methodLink RX6 72 yX6_work, Cond.instanceMethod yX6_work, Cond.selects RX6 yX6_work yX6_work, Cond.code yX6_work cX6_work 4 none, Cond.methodLink RX6 54 yX6_rate, Cond.instanceMethod yX6_rate, Cond.selects RX6 yX6_rate yX6_rate]
def wsX6_go_r5 : List Cond := [Cond.code yX6_rate cX6_rate 2 (some .int), Cond.methodLink RX6 114 yX6_passes, Cond.instanceMethod yX6_passes, Cond.selects RX6 yX6_passes yX6_passes, Cond.code yX6_passes cX6_passes 4 (some .int), Cond.methodLink RX6 76 yX6_day, Cond.instanceMethod yX6_day, Cond.selects RX6 yX6_day yX6_day, Cond.code yX6_day cX6_day 2 none, Cond.constant RX6 57 (43200), Cond.methodLink RX6 79 yX6_still, Cond.instanceMethod yX6_still, Cond.selects RX6 yX6_still yX6_still, Cond.code yX6_still cX6_still 3 (some .int), Cond.methodLink RX6 82 yX6_many, Cond.static yX6_many, Cond.code yX6_many cX6_many 3 (some .int), Cond.methodLink RX6 117 yX6_changes, Cond.instanceMethod yX6_changes, Cond.selects RX6 yX6_changes yX6_changes, Cond.code yX6_changes cX6_changes 3 (some .int)]
def wsX6_go : List Cond := .code yX6_go cX6_go 6 (some .int) :: ((wsX6_go_r1 ++ (wsX6_go_r2 ++ (wsX6_go_r3 ++ (wsX6_go_r4 ++ wsX6_go_r5)))) ++ wsX60)
def wsX6_fault_r1 : List Cond := [Cond.fieldLink RX6 141 "WinderLaddersModel" "isWrong" "Z", Cond.fieldLink RX6 138 "WinderLaddersModel" "place" "I", Cond.methodLink RX6 177 yX6_go, Cond.instanceMethod yX6_go, Cond.selects RX6 yX6_go yX6_go, Cond.initialized RX6, Cond.code yX6_go cX6_go 6 (some .int), Cond.fieldLink RX6 127 "WinderLaddersModel" "length" "I", Cond.methodLink RX6 170 yX6_order, Cond.instanceMethod yX6_order, Cond.selects RX6 yX6_order yX6_order, Cond.code yX6_order cX6_order 5 none, Cond.fieldLink RX6 26 "WinderLaddersModel" "pad" "[I", Cond.fieldLink RX6 152 "WinderLaddersModel" "letter" "I", Cond.fieldLink RX6 158 "WinderLaddersModel" "one" "I", Cond.fieldLink RX6 161 "WinderLaddersModel" "two" "I", Cond.fieldLink RX6 164 "WinderLaddersModel" "three" "I", Cond.fieldLink RX6 29 "WinderLaddersModel" "row" "[I", Cond.fieldLink RX6 58 "WinderLaddersModel" "inRow" "I", Cond.methodLink RX6 155 yX6_number, Cond.instanceMethod yX6_number, Cond.selects RX6 yX6_number yX6_number, Cond.code yX6_number cX6_number 2 (some .int), Cond.methodLink RX6 145 yX6_sign]
def wsX6_fault_r2 : List Cond := [Cond.instanceMethod yX6_sign, Cond.selects RX6 yX6_sign yX6_sign, Cond.code yX6_sign cX6_sign 4 (some .int), Cond.methodLink RX6 35 yX6_in, Cond.static yX6_in, Cond.code yX6_in cX6_in 3 (some .boolean), Cond.methodLink RX6 148 yX6_isNext, Cond.instanceMethod yX6_isNext, Cond.selects RX6 yX6_isNext yX6_isNext, Cond.code yX6_isNext cX6_isNext 3 (some .boolean), Cond.methodLink RX6 173 yX6_does, Cond.instanceMethod yX6_does, Cond.selects RX6 yX6_does yX6_does, Cond.code yX6_does cX6_does 4 (some .boolean), Cond.methodLink RX6 88 yX6_hangFault, Cond.instanceMethod yX6_hangFault, Cond.selects RX6 yX6_hangFault yX6_hangFault, Cond.code yX6_hangFault cX6_hangFault 4 (some .int), Cond.fieldLink RX6 7 "WinderLaddersModel" "s" "[I", Cond.methodLink RX6 95 yX6_ladderFault, Cond.instanceMethod yX6_ladderFault, Cond.selects RX6 yX6_ladderFault yX6_ladderFault, Cond.code yX6_ladderFault cX6_ladderFault 2 (some .int), Cond.methodLink RX6 167 yX6_rowFault]
def wsX6_fault_r3 : List Cond := [Cond.instanceMethod yX6_rowFault, Cond.selects RX6 yX6_rowFault yX6_rowFault, Cond.code yX6_rowFault cX6_rowFault 3 (some .int), Cond.methodLink RX6 101 yX6_isClock, Cond.instanceMethod yX6_isClock, Cond.selects RX6 yX6_isClock yX6_isClock, Cond.code yX6_isClock cX6_isClock 2 (some .boolean), Cond.methodLink RX6 111 yX6_passFault, Cond.instanceMethod yX6_passFault, Cond.selects RX6 yX6_passFault yX6_passFault, Cond.code yX6_passFault cX6_passFault 2 (some .int), Cond.methodLink RX6 92 yX6_hangs, Cond.instanceMethod yX6_hangs, Cond.selects RX6 yX6_hangs yX6_hangs, Cond.code yX6_hangs cX6_hangs 6 (some .int), Cond.methodLink RX6 43 yX6_at, Cond.static yX6_at, Cond.code yX6_at cX6_at 2 (some .int), Cond.methodLink RX6 98 yX6_buys, Cond.instanceMethod yX6_buys, Cond.selects RX6 yX6_buys yX6_buys, Cond.code yX6_buys cX6_buys 2 (some .int), Cond.methodLink RX6 108 yX6_goes, Cond.instanceMethod yX6_goes]
def wsX6_fault_r4 : List Cond := [Cond.selects RX6 yX6_goes yX6_goes, Cond.code yX6_goes cX6_goes 3 (some .int), Cond.methodLink RX6 68 yX6_minutes, Cond.instanceMethod yX6_minutes, Cond.selects RX6 yX6_minutes yX6_minutes, Cond.code yX6_minutes cX6_minutes 8 (some .int), Cond.methodLink RX6 51 yX6_ladderOf, Cond.instanceMethod yX6_ladderOf, Cond.selects RX6 yX6_ladderOf yX6_ladderOf, Cond.code yX6_ladderOf cX6_ladderOf 5 (some .int), Cond.methodLink RX6 61 yX6_way, Cond.instanceMethod yX6_way, Cond.selects RX6 yX6_way yX6_way, Cond.code yX6_way cX6_way 3 (some .int), Cond.methodLink RX6 47 yX6_size, Cond.static yX6_size, Cond.code yX6_size cX6_size 1 (some .int), Cond.methodLink RX6 64 yX6_canWind, Cond.instanceMethod yX6_canWind, Cond.selects RX6 yX6_canWind yX6_canWind, Cond.code yX6_canWind cX6_canWind 2 (some .boolean), Cond.methodLink RX6 72 yX6_work, Cond.instanceMethod yX6_work, Cond.selects RX6 yX6_work yX6_work]
def wsX6_fault_r5 : List Cond := [Cond.code yX6_work cX6_work 4 none, Cond.methodLink RX6 54 yX6_rate, Cond.instanceMethod yX6_rate, Cond.selects RX6 yX6_rate yX6_rate, Cond.code yX6_rate cX6_rate 2 (some .int), Cond.methodLink RX6 114 yX6_passes, Cond.instanceMethod yX6_passes, Cond.selects RX6 yX6_passes yX6_passes, Cond.code yX6_passes cX6_passes 4 (some .int), Cond.methodLink RX6 76 yX6_day, Cond.instanceMethod yX6_day, Cond.selects RX6 yX6_day yX6_day, Cond.code yX6_day cX6_day 2 none, Cond.constant RX6 57 (43200), Cond.methodLink RX6 79 yX6_still, Cond.instanceMethod yX6_still, Cond.selects RX6 yX6_still yX6_still, Cond.code yX6_still cX6_still 3 (some .int), Cond.methodLink RX6 82 yX6_many, Cond.static yX6_many, Cond.code yX6_many cX6_many 3 (some .int), Cond.methodLink RX6 117 yX6_changes, Cond.instanceMethod yX6_changes, Cond.selects RX6 yX6_changes yX6_changes]
def wsX6_fault_r6 : List Cond := [Cond.code yX6_changes cX6_changes 3 (some .int)]
def wsX6_fault : List Cond := .code yX6_fault cX6_fault 2 (some .int) :: ((wsX6_fault_r1 ++ (wsX6_fault_r2 ++ (wsX6_fault_r3 ++ (wsX6_fault_r4 ++ (wsX6_fault_r5 ++ wsX6_fault_r6))))) ++ wsX60)
def wsX6_carryOut_r1 : List Cond := [Cond.fieldLink RX6 141 "WinderLaddersModel" "isWrong" "Z", Cond.fieldLink RX6 127 "WinderLaddersModel" "length" "I", Cond.methodLink RX6 177 yX6_go, Cond.instanceMethod yX6_go, Cond.selects RX6 yX6_go yX6_go, Cond.initialized RX6, Cond.code yX6_go cX6_go 6 (some .int), Cond.fieldLink RX6 138 "WinderLaddersModel" "place" "I", Cond.methodLink RX6 170 yX6_order, Cond.instanceMethod yX6_order, Cond.selects RX6 yX6_order yX6_order, Cond.code yX6_order cX6_order 5 none, Cond.fieldLink RX6 26 "WinderLaddersModel" "pad" "[I", Cond.fieldLink RX6 152 "WinderLaddersModel" "letter" "I", Cond.fieldLink RX6 158 "WinderLaddersModel" "one" "I", Cond.fieldLink RX6 161 "WinderLaddersModel" "two" "I", Cond.fieldLink RX6 164 "WinderLaddersModel" "three" "I", Cond.fieldLink RX6 29 "WinderLaddersModel" "row" "[I", Cond.fieldLink RX6 58 "WinderLaddersModel" "inRow" "I", Cond.methodLink RX6 155 yX6_number, Cond.instanceMethod yX6_number, Cond.selects RX6 yX6_number yX6_number, Cond.code yX6_number cX6_number 2 (some .int), Cond.methodLink RX6 145 yX6_sign]
def wsX6_carryOut_r2 : List Cond := [Cond.instanceMethod yX6_sign, Cond.selects RX6 yX6_sign yX6_sign, Cond.code yX6_sign cX6_sign 4 (some .int), Cond.methodLink RX6 35 yX6_in, Cond.static yX6_in, Cond.code yX6_in cX6_in 3 (some .boolean), Cond.methodLink RX6 148 yX6_isNext, Cond.instanceMethod yX6_isNext, Cond.selects RX6 yX6_isNext yX6_isNext, Cond.code yX6_isNext cX6_isNext 3 (some .boolean), Cond.methodLink RX6 173 yX6_does, Cond.instanceMethod yX6_does, Cond.selects RX6 yX6_does yX6_does, Cond.code yX6_does cX6_does 4 (some .boolean), Cond.methodLink RX6 88 yX6_hangFault, Cond.instanceMethod yX6_hangFault, Cond.selects RX6 yX6_hangFault yX6_hangFault, Cond.code yX6_hangFault cX6_hangFault 4 (some .int), Cond.fieldLink RX6 7 "WinderLaddersModel" "s" "[I", Cond.methodLink RX6 95 yX6_ladderFault, Cond.instanceMethod yX6_ladderFault, Cond.selects RX6 yX6_ladderFault yX6_ladderFault, Cond.code yX6_ladderFault cX6_ladderFault 2 (some .int), Cond.methodLink RX6 167 yX6_rowFault]
def wsX6_carryOut_r3 : List Cond := [Cond.instanceMethod yX6_rowFault, Cond.selects RX6 yX6_rowFault yX6_rowFault, Cond.code yX6_rowFault cX6_rowFault 3 (some .int), Cond.methodLink RX6 101 yX6_isClock, Cond.instanceMethod yX6_isClock, Cond.selects RX6 yX6_isClock yX6_isClock, Cond.code yX6_isClock cX6_isClock 2 (some .boolean), Cond.methodLink RX6 111 yX6_passFault, Cond.instanceMethod yX6_passFault, Cond.selects RX6 yX6_passFault yX6_passFault, Cond.code yX6_passFault cX6_passFault 2 (some .int), Cond.methodLink RX6 92 yX6_hangs, Cond.instanceMethod yX6_hangs, Cond.selects RX6 yX6_hangs yX6_hangs, Cond.code yX6_hangs cX6_hangs 6 (some .int), Cond.methodLink RX6 43 yX6_at, Cond.static yX6_at, Cond.code yX6_at cX6_at 2 (some .int), Cond.methodLink RX6 98 yX6_buys, Cond.instanceMethod yX6_buys, Cond.selects RX6 yX6_buys yX6_buys, Cond.code yX6_buys cX6_buys 2 (some .int), Cond.methodLink RX6 108 yX6_goes, Cond.instanceMethod yX6_goes]
def wsX6_carryOut_r4 : List Cond := [Cond.selects RX6 yX6_goes yX6_goes, Cond.code yX6_goes cX6_goes 3 (some .int), Cond.methodLink RX6 68 yX6_minutes, Cond.instanceMethod yX6_minutes, Cond.selects RX6 yX6_minutes yX6_minutes, Cond.code yX6_minutes cX6_minutes 8 (some .int), Cond.methodLink RX6 51 yX6_ladderOf, Cond.instanceMethod yX6_ladderOf, Cond.selects RX6 yX6_ladderOf yX6_ladderOf, Cond.code yX6_ladderOf cX6_ladderOf 5 (some .int), Cond.methodLink RX6 61 yX6_way, Cond.instanceMethod yX6_way, Cond.selects RX6 yX6_way yX6_way, Cond.code yX6_way cX6_way 3 (some .int), Cond.methodLink RX6 47 yX6_size, Cond.static yX6_size, Cond.code yX6_size cX6_size 1 (some .int), Cond.methodLink RX6 64 yX6_canWind, Cond.instanceMethod yX6_canWind, Cond.selects RX6 yX6_canWind yX6_canWind, Cond.code yX6_canWind cX6_canWind 2 (some .boolean), Cond.methodLink RX6 72 yX6_work, Cond.instanceMethod yX6_work, Cond.selects RX6 yX6_work yX6_work]
def wsX6_carryOut_r5 : List Cond := [Cond.code yX6_work cX6_work 4 none, Cond.methodLink RX6 54 yX6_rate, Cond.instanceMethod yX6_rate, Cond.selects RX6 yX6_rate yX6_rate, Cond.code yX6_rate cX6_rate 2 (some .int), Cond.methodLink RX6 114 yX6_passes, Cond.instanceMethod yX6_passes, Cond.selects RX6 yX6_passes yX6_passes, Cond.code yX6_passes cX6_passes 4 (some .int), Cond.methodLink RX6 76 yX6_day, Cond.instanceMethod yX6_day, Cond.selects RX6 yX6_day yX6_day, Cond.code yX6_day cX6_day 2 none, Cond.constant RX6 57 (43200), Cond.methodLink RX6 79 yX6_still, Cond.instanceMethod yX6_still, Cond.selects RX6 yX6_still yX6_still, Cond.code yX6_still cX6_still 3 (some .int), Cond.methodLink RX6 82 yX6_many, Cond.static yX6_many, Cond.code yX6_many cX6_many 3 (some .int), Cond.methodLink RX6 117 yX6_changes, Cond.instanceMethod yX6_changes, Cond.selects RX6 yX6_changes yX6_changes]
def wsX6_carryOut_r6 : List Cond := [Cond.code yX6_changes cX6_changes 3 (some .int), Cond.methodLink RX6 85 yX6_know, Cond.instanceMethod yX6_know, Cond.selects RX6 yX6_know yX6_know, Cond.code yX6_know cX6_know 2 none, Cond.fieldLink RX6 39 "WinderLaddersModel" "known" "I", Cond.fieldLink RX6 16 "WinderLaddersModel" "before" "[I"]
def wsX6_carryOut : List Cond := .code yX6_carryOut cX6_carryOut 3 (some .int) :: ((wsX6_carryOut_r1 ++ (wsX6_carryOut_r2 ++ (wsX6_carryOut_r3 ++ (wsX6_carryOut_r4 ++ (wsX6_carryOut_r5 ++ wsX6_carryOut_r6))))) ++ wsX60)
def wsX6_undo : List Cond := .code yX6_undo cX6_undo 2 (some .int) :: ([.fieldLink RX6 39 "WinderLaddersModel" "known" "I", .fieldLink RX6 7 "WinderLaddersModel" "s" "[I", .fieldLink RX6 16 "WinderLaddersModel" "before" "[I"] ++ wsX60)
def wsX6_save : List Cond := .code yX6_save cX6_save 3 (some .int) :: ([.fieldLink RX6 19 "WinderLaddersModel" "slots" "[I", .fieldLink RX6 7 "WinderLaddersModel" "s" "[I", .fieldLink RX6 22 "WinderLaddersModel" "isSaved" "[Z", .methodLink RX6 35 yX6_in, .static yX6_in, .initialized RX6, .code yX6_in cX6_in 3 (some .boolean)] ++ wsX60)
def wsX6_restore : List Cond := .code yX6_restore cX6_restore 3 (some .int) :: ([.fieldLink RX6 22 "WinderLaddersModel" "isSaved" "[Z", .fieldLink RX6 7 "WinderLaddersModel" "s" "[I", .fieldLink RX6 19 "WinderLaddersModel" "slots" "[I", .methodLink RX6 35 yX6_in, .static yX6_in, .initialized RX6, .code yX6_in cX6_in 3 (some .boolean), .methodLink RX6 85 yX6_know, .instanceMethod yX6_know, .selects RX6 yX6_know yX6_know, .code yX6_know cX6_know 2 none, .fieldLink RX6 39 "WinderLaddersModel" "known" "I", .fieldLink RX6 16 "WinderLaddersModel" "before" "[I"] ++ wsX60)
def wsJ9_abs_0f7a4 : List Cond := .code yJ9_abs_0f7a4 cJ9_abs_0f7a4 1 (some .int) :: ([])
def wsJ9_max_7cf53 : List Cond := .code yJ9_max_7cf53 cJ9_max_7cf53 2 (some .int) :: ([])
def wsL_law_r1 : List Cond := [Cond.classLink RL 7 RX5, Cond.instantiable RX5 6, Cond.initialized RX5, Cond.classLink RL 10 RX6, Cond.instantiable RX6 17, Cond.initialized RX6, Cond.constantLong RL 77 (4294967295), Cond.methodLink RL 9 yX5_init, Cond.instanceMethod yX5_init, Cond.code yX5_init cX5_init 2 none, Cond.methodLink RX5 3 objectInit, Cond.instanceMethod objectInit, Cond.code objectInit ⟨#[0xb1]⟩ 1 none, Cond.classLink RX5 9 RX4, Cond.instantiable RX4 7, Cond.initialized RX4, Cond.fieldLink RX5 12 "WinderLadders" "now" "LWinderLadders$State;", Cond.classLink RX5 16 RX1, Cond.instantiable RX1 2, Cond.initialized RX1, Cond.fieldLink RX5 19 "WinderLadders" "history" "LWinderLadders$History;", Cond.fieldLink RX5 23 "WinderLadders" "slots" "[LWinderLadders$State;", Cond.arrayClass .boolean, Cond.fieldLink RX5 27 "WinderLadders" "slotHolds" "[Z"]
def wsL_law_r2 : List Cond := [Cond.classLink RX5 31 RX2, Cond.instantiable RX2 5, Cond.initialized RX2, Cond.fieldLink RX5 34 "WinderLadders" "pad" "LWinderLadders$Pad;", Cond.classLink RX5 38 RX3, Cond.instantiable RX3 2, Cond.initialized RX3, Cond.fieldLink RX5 41 "WinderLadders" "row" "LWinderLadders$Row;", Cond.methodLink RX5 11 yX4_init, Cond.instanceMethod yX4_init, Cond.code yX4_init cX4_init 2 none, Cond.methodLink RX4 3 objectInit, Cond.arrayClass .int, Cond.fieldLink RX4 9 "WinderLadders$State" "settings" "[I", Cond.classLink RX4 15 RX0, Cond.fieldLink RX4 17 "WinderLadders$State" "clocks" "[LWinderLadders$Clock;", Cond.fieldLink RX4 21 "WinderLadders$State" "ladders" "[I", Cond.methodLink RX4 27 arraycopyName, Cond.native arraycopyName, Cond.static arraycopyName, Cond.initialized "java/lang/System", Cond.instantiable RX0 8, Cond.initialized RX0, Cond.instanceMethod yX0_init]
def wsL_law_r3 : List Cond := [Cond.code yX0_init cX0_init 1 none, Cond.methodLink RX0 3 objectInit, Cond.methodLink RX5 18 yX1_init, Cond.instanceMethod yX1_init, Cond.code yX1_init cX1_init 2 none, Cond.methodLink RX1 3 objectInit, Cond.classLink RX1 9 RX4, Cond.fieldLink RX1 11 "WinderLadders$History" "states" "[LWinderLadders$State;", Cond.methodLink RX1 17 yX4_init, Cond.instanceMethod yX2_init, Cond.code yX2_init cX2_init 1 none, Cond.methodLink RX2 3 objectInit, Cond.arrayClass .char, Cond.fieldLink RX2 9 "WinderLadders$Pad" "signs" "[C", Cond.classLink RX2 15 RX3, Cond.fieldLink RX2 18 "WinderLadders$Pad" "numbers" "LWinderLadders$Row;", Cond.instanceMethod yX3_init, Cond.code yX3_init cX3_init 1 none, Cond.methodLink RX3 3 objectInit, Cond.fieldLink RX3 9 "WinderLadders$Row" "numbers" "[I", Cond.methodLink RL 12 yX6_init, Cond.instanceMethod yX6_init, Cond.code yX6_init cX6_init 1 none, Cond.methodLink RX6 1 objectInit]
def wsL_law_r4 : List Cond := [Cond.fieldLink RX6 7 "WinderLaddersModel" "s" "[I", Cond.fieldLink RX6 13 "WinderLaddersModel" "aside" "[I", Cond.fieldLink RX6 16 "WinderLaddersModel" "before" "[I", Cond.fieldLink RX6 19 "WinderLaddersModel" "slots" "[I", Cond.fieldLink RX6 22 "WinderLaddersModel" "isSaved" "[Z", Cond.fieldLink RX6 26 "WinderLaddersModel" "pad" "[I", Cond.fieldLink RX6 29 "WinderLaddersModel" "row" "[I", Cond.fieldLink RX6 32 "WinderLaddersModel" "last" "[I", Cond.methodLink RL 13 yX5_set, Cond.instanceMethod yX5_set, Cond.selects RX5 yX5_set yX5_set, Cond.code yX5_set cX5_set 3 (some .int), Cond.methodLink RX5 45 yX1_prepare, Cond.instanceMethod yX1_prepare, Cond.selects RX1 yX1_prepare yX1_prepare, Cond.code yX1_prepare cX1_prepare 2 none, Cond.fieldLink RX1 18 "WinderLadders$History" "depth" "I", Cond.methodLink RX1 22 yX4_copyFrom, Cond.instanceMethod yX4_copyFrom, Cond.selects RX4 yX4_copyFrom yX4_copyFrom, Cond.code yX4_copyFrom cX4_copyFrom 3 none, Cond.fieldLink RX4 34 "WinderLadders$State" "clockCount" "I", Cond.fieldLink RX4 42 "WinderLadders$State" "ladderCount" "I", Cond.fieldLink RX4 45 "WinderLadders$State" "days" "I"]
def wsL_law_r5 : List Cond := [Cond.fieldLink RX4 48 "WinderLadders$State" "minutes" "I", Cond.methodLink RX4 38 yX0_copyFrom, Cond.instanceMethod yX0_copyFrom, Cond.selects RX0 yX0_copyFrom yX0_copyFrom, Cond.code yX0_copyFrom cX0_copyFrom 2 none, Cond.fieldLink RX0 9 "WinderLadders$Clock" "house" "I", Cond.fieldLink RX0 15 "WinderLadders$Clock" "rungs" "I", Cond.fieldLink RX0 18 "WinderLadders$Clock" "drift" "I", Cond.fieldLink RX0 21 "WinderLadders$Clock" "screw" "I", Cond.fieldLink RX0 24 "WinderLadders$Clock" "off" "I", Cond.fieldLink RX0 27 "WinderLadders$Clock" "daysSinceWound" "I", Cond.fieldLink RX0 30 "WinderLadders$Clock" "timesWound" "I", Cond.fieldLink RX0 33 "WinderLadders$Clock" "goes" "Z", Cond.methodLink RX5 49 yX4_replaceSetting, Cond.instanceMethod yX4_replaceSetting, Cond.selects RX4 yX4_replaceSetting yX4_replaceSetting, Cond.code yX4_replaceSetting cX4_replaceSetting 4 (some .int), Cond.static yX5_isWithin, Cond.code yX5_isWithin cX5_isWithin 3 (some .boolean), Cond.methodLink RX5 53 yX5_keptIfDone, Cond.instanceMethod yX5_keptIfDone, Cond.selects RX5 yX5_keptIfDone yX5_keptIfDone, Cond.code yX5_keptIfDone cX5_keptIfDone 2 (some .int), Cond.methodLink RX5 209 yX1_keepPrepared]
def wsL_law_r6 : List Cond := [Cond.instanceMethod yX1_keepPrepared, Cond.selects RX1 yX1_keepPrepared yX1_keepPrepared, Cond.code yX1_keepPrepared cX1_keepPrepared 1 none, Cond.methodLink RX1 26 yX1_dropOldest, Cond.instanceMethod yX1_dropOldest, Cond.selects RX1 yX1_dropOldest yX1_dropOldest, Cond.code yX1_dropOldest cX1_dropOldest 3 none, Cond.methodLink RL 17 yX6_set, Cond.instanceMethod yX6_set, Cond.selects RX6 yX6_set yX6_set, Cond.code yX6_set cX6_set 5 (some .int), Cond.methodLink RX6 35 yX6_in, Cond.static yX6_in, Cond.code yX6_in cX6_in 3 (some .boolean), Cond.methodLink RX6 85 yX6_know, Cond.instanceMethod yX6_know, Cond.selects RX6 yX6_know yX6_know, Cond.code yX6_know cX6_know 2 none, Cond.fieldLink RX6 39 "WinderLaddersModel" "known" "I", Cond.methodLink RL 18 yX5_hang, Cond.instanceMethod yX5_hang, Cond.selects RX5 yX5_hang yX5_hang, Cond.code yX5_hang cX5_hang 4 (some .int), Cond.methodLink RX5 57 yX4_addClock]
def wsL_law_r7 : List Cond := [Cond.instanceMethod yX4_addClock, Cond.selects RX4 yX4_addClock yX4_addClock, Cond.code yX4_addClock cX4_addClock 4 (some .int), Cond.methodLink RX4 58 yX0_begin, Cond.instanceMethod yX0_begin, Cond.selects RX0 yX0_begin yX0_begin, Cond.code yX0_begin cX0_begin 4 none, Cond.methodLink RL 22 yX6_hang, Cond.instanceMethod yX6_hang, Cond.selects RX6 yX6_hang yX6_hang, Cond.code yX6_hang cX6_hang 5 (some .int), Cond.methodLink RX6 88 yX6_hangFault, Cond.instanceMethod yX6_hangFault, Cond.selects RX6 yX6_hangFault yX6_hangFault, Cond.code yX6_hangFault cX6_hangFault 4 (some .int), Cond.methodLink RX6 92 yX6_hangs, Cond.instanceMethod yX6_hangs, Cond.selects RX6 yX6_hangs yX6_hangs, Cond.code yX6_hangs cX6_hangs 6 (some .int), Cond.methodLink RX6 43 yX6_at, Cond.static yX6_at, Cond.code yX6_at cX6_at 2 (some .int), Cond.methodLink RL 23 yX5_ladder, Cond.instanceMethod yX5_ladder]
def wsL_law_r8 : List Cond := [Cond.selects RX5 yX5_ladder yX5_ladder, Cond.code yX5_ladder cX5_ladder 2 (some .int), Cond.methodLink RX5 61 yX4_addLadder, Cond.instanceMethod yX4_addLadder, Cond.selects RX4 yX4_addLadder yX4_addLadder, Cond.code yX4_addLadder cX4_addLadder 2 (some .int), Cond.methodLink RL 27 yX6_ladder, Cond.instanceMethod yX6_ladder, Cond.selects RX6 yX6_ladder yX6_ladder, Cond.code yX6_ladder cX6_ladder 3 (some .int), Cond.methodLink RX6 95 yX6_ladderFault, Cond.instanceMethod yX6_ladderFault, Cond.selects RX6 yX6_ladderFault yX6_ladderFault, Cond.code yX6_ladderFault cX6_ladderFault 2 (some .int), Cond.methodLink RX6 98 yX6_buys, Cond.instanceMethod yX6_buys, Cond.selects RX6 yX6_buys yX6_buys, Cond.code yX6_buys cX6_buys 2 (some .int), Cond.methodLink RL 28 yX5_screw, Cond.instanceMethod yX5_screw, Cond.selects RX5 yX5_screw yX5_screw, Cond.code yX5_screw cX5_screw 3 (some .int), Cond.methodLink RX5 64 yX4_turnScrew, Cond.instanceMethod yX4_turnScrew]
def wsL_law_r9 : List Cond := [Cond.selects RX4 yX4_turnScrew yX4_turnScrew, Cond.code yX4_turnScrew cX4_turnScrew 4 (some .int), Cond.fieldLink RX4 66 "WinderLadders$Clock" "screw" "I", Cond.methodLink RX4 62 yX4_hasClock, Cond.instanceMethod yX4_hasClock, Cond.selects RX4 yX4_hasClock yX4_hasClock, Cond.code yX4_hasClock cX4_hasClock 2 (some .boolean), Cond.methodLink RL 31 yX6_screw, Cond.instanceMethod yX6_screw, Cond.selects RX6 yX6_screw yX6_screw, Cond.code yX6_screw cX6_screw 4 (some .int), Cond.methodLink RX6 101 yX6_isClock, Cond.instanceMethod yX6_isClock, Cond.selects RX6 yX6_isClock yX6_isClock, Cond.code yX6_isClock cX6_isClock 2 (some .boolean), Cond.methodLink RL 32 yX5_round, Cond.instanceMethod yX5_round, Cond.selects RX5 yX5_round yX5_round, Cond.code yX5_round cX5_round 3 (some .int), Cond.methodLink RX5 67 yX5_chooseRow, Cond.instanceMethod yX5_chooseRow, Cond.selects RX5 yX5_chooseRow yX5_chooseRow, Cond.code yX5_chooseRow cX5_chooseRow 3 (some .int), Cond.fieldLink RX5 141 "WinderLadders$State" "clockCount" "I"]
def wsL_law_r10 : List Cond := [Cond.fieldLink RX5 218 "WinderLadders$Row" "length" "I", Cond.methodLink RX5 212 yX3_clear, Cond.instanceMethod yX3_clear, Cond.selects RX3 yX3_clear yX3_clear, Cond.code yX3_clear cX3_clear 1 none, Cond.fieldLink RX3 15 "WinderLadders$Row" "length" "I", Cond.methodLink RX5 215 yX3_add, Cond.instanceMethod yX3_add, Cond.selects RX3 yX3_add yX3_add, Cond.code yX3_add cX3_add 2 (some .boolean), Cond.methodLink RX5 70 yX4_walkBeat, Cond.instanceMethod yX4_walkBeat, Cond.selects RX4 yX4_walkBeat yX4_walkBeat, Cond.code yX4_walkBeat cX4_walkBeat 5 (some .int), Cond.fieldLink RX4 88 "WinderLadders$Row" "length" "I", Cond.methodLink RX4 84 yX4_minutesOf, Cond.instanceMethod yX4_minutesOf, Cond.selects RX4 yX4_minutesOf yX4_minutesOf, Cond.code yX4_minutesOf cX4_minutesOf 10 (some .int), Cond.fieldLink RX4 104 "WinderLadders$Clock" "house" "I", Cond.methodLink RX4 107 Lib.Math.abs.name, Cond.static Lib.Math.abs.name, Cond.initialized "java/lang/Math", Cond.code Lib.Math.abs.name Lib.Math.abs.code 1 (some .int)]
def wsL_law_r11 : List Cond := [Cond.methodLink RX4 93 yX3_at, Cond.instanceMethod yX3_at, Cond.selects RX3 yX3_at yX3_at, Cond.code yX3_at cX3_at 2 (some .int), Cond.methodLink RX4 112 yX4_ladderNeeded, Cond.instanceMethod yX4_ladderNeeded, Cond.selects RX4 yX4_ladderNeeded yX4_ladderNeeded, Cond.code yX4_ladderNeeded cX4_ladderNeeded 5 (some .int), Cond.fieldLink RX4 116 "WinderLadders$Clock" "rungs" "I", Cond.methodLink RX4 97 yX4_canBeWound, Cond.instanceMethod yX4_canBeWound, Cond.selects RX4 yX4_canBeWound yX4_canBeWound, Cond.code yX4_canBeWound cX4_canBeWound 2 (some .boolean), Cond.methodLink RX4 101 yX0_windAndSet, Cond.instanceMethod yX0_windAndSet, Cond.selects RX0 yX0_windAndSet yX0_windAndSet, Cond.code yX0_windAndSet cX0_windAndSet 2 none, Cond.methodLink RX0 48 yX0_isOffBeyond, Cond.instanceMethod yX0_isOffBeyond, Cond.selects RX0 yX0_isOffBeyond yX0_isOffBeyond, Cond.code yX0_isOffBeyond cX0_isOffBeyond 2 (some .boolean), Cond.methodLink RX0 37 Lib.Math.abs.name, Cond.methodLink RX0 52 yX0_turnByRule, Cond.instanceMethod yX0_turnByRule]
def wsL_law_r12 : List Cond := [Cond.selects RX0 yX0_turnByRule yX0_turnByRule, Cond.code yX0_turnByRule cX0_turnByRule 2 none, Cond.methodLink RX0 43 yX0_driftWithScrew, Cond.instanceMethod yX0_driftWithScrew, Cond.selects RX0 yX0_driftWithScrew yX0_driftWithScrew, Cond.code yX0_driftWithScrew cX0_driftWithScrew 1 (some .int), Cond.methodLink RL 35 yX6_round, Cond.instanceMethod yX6_round, Cond.selects RX6 yX6_round yX6_round, Cond.code yX6_round cX6_round 3 (some .int), Cond.methodLink RX6 104 yX6_layOut, Cond.instanceMethod yX6_layOut, Cond.selects RX6 yX6_layOut yX6_layOut, Cond.code yX6_layOut cX6_layOut 5 (some .int), Cond.fieldLink RX6 58 "WinderLaddersModel" "inRow" "I", Cond.methodLink RX6 108 yX6_goes, Cond.instanceMethod yX6_goes, Cond.selects RX6 yX6_goes yX6_goes, Cond.code yX6_goes cX6_goes 3 (some .int), Cond.methodLink RX6 68 yX6_minutes, Cond.instanceMethod yX6_minutes, Cond.selects RX6 yX6_minutes yX6_minutes, Cond.code yX6_minutes cX6_minutes 8 (some .int), Cond.methodLink RX6 51 yX6_ladderOf]
def wsL_law_r13 : List Cond := [Cond.instanceMethod yX6_ladderOf, Cond.selects RX6 yX6_ladderOf yX6_ladderOf, Cond.code yX6_ladderOf cX6_ladderOf 5 (some .int), Cond.methodLink RX6 61 yX6_way, Cond.instanceMethod yX6_way, Cond.selects RX6 yX6_way yX6_way, Cond.code yX6_way cX6_way 3 (some .int), Cond.methodLink RX6 47 yX6_size, Cond.static yX6_size, Cond.code yX6_size cX6_size 1 (some .int), Cond.methodLink RX6 64 yX6_canWind, Cond.instanceMethod yX6_canWind, Cond.selects RX6 yX6_canWind yX6_canWind, Cond.code yX6_canWind cX6_canWind 2 (some .boolean), Cond.methodLink RX6 72 yX6_work, Cond.instanceMethod yX6_work, Cond.selects RX6 yX6_work yX6_work, Cond.code yX6_work cX6_work 4 none, Cond.methodLink RX6 54 yX6_rate, Cond.instanceMethod yX6_rate, Cond.selects RX6 yX6_rate yX6_rate, Cond.code yX6_rate cX6_rate 2 (some .int), Cond.methodLink RL 36 yX5_pass, Cond.instanceMethod yX5_pass]
def wsL_law_r14 : List Cond := [Cond.selects RX5 yX5_pass yX5_pass, Cond.code yX5_pass cX5_pass 2 (some .int), Cond.methodLink RX5 74 yX4_passDays, Cond.instanceMethod yX4_passDays, Cond.selects RX4 yX4_passDays yX4_passDays, Cond.code yX4_passDays cX4_passDays 4 (some .int), Cond.methodLink RX4 69 yX0_passDay, Cond.instanceMethod yX0_passDay, Cond.selects RX0 yX0_passDay yX0_passDay, Cond.code yX0_passDay cX0_passDay 2 none, Cond.constant RX0 47 (43200), Cond.methodLink RX4 73 yX4_numberThatGo, Cond.instanceMethod yX4_numberThatGo, Cond.selects RX4 yX4_numberThatGo yX4_numberThatGo, Cond.code yX4_numberThatGo cX4_numberThatGo 3 (some .int), Cond.fieldLink RX4 77 "WinderLadders$Clock" "goes" "Z", Cond.methodLink RL 39 yX6_pass, Cond.instanceMethod yX6_pass, Cond.selects RX6 yX6_pass yX6_pass, Cond.code yX6_pass cX6_pass 3 (some .int), Cond.methodLink RX6 111 yX6_passFault, Cond.instanceMethod yX6_passFault, Cond.selects RX6 yX6_passFault yX6_passFault, Cond.code yX6_passFault cX6_passFault 2 (some .int)]
def wsL_law_r15 : List Cond := [Cond.methodLink RX6 114 yX6_passes, Cond.instanceMethod yX6_passes, Cond.selects RX6 yX6_passes yX6_passes, Cond.code yX6_passes cX6_passes 4 (some .int), Cond.methodLink RX6 76 yX6_day, Cond.instanceMethod yX6_day, Cond.selects RX6 yX6_day yX6_day, Cond.code yX6_day cX6_day 2 none, Cond.constant RX6 57 (43200), Cond.methodLink RX6 79 yX6_still, Cond.instanceMethod yX6_still, Cond.selects RX6 yX6_still yX6_still, Cond.code yX6_still cX6_still 3 (some .int), Cond.methodLink RX6 82 yX6_many, Cond.static yX6_many, Cond.code yX6_many cX6_many 3 (some .int), Cond.methodLink RL 40 yX5_change, Cond.instanceMethod yX5_change, Cond.selects RX5 yX5_change yX5_change, Cond.code yX5_change cX5_change 2 (some .int), Cond.methodLink RX5 77 yX4_changeClocks, Cond.instanceMethod yX4_changeClocks, Cond.selects RX4 yX4_changeClocks yX4_changeClocks, Cond.code yX4_changeClocks cX4_changeClocks 4 (some .int)]
def wsL_law_r16 : List Cond := [Cond.fieldLink RX4 81 "WinderLadders$Clock" "off" "I", Cond.methodLink RL 43 yX6_change, Cond.instanceMethod yX6_change, Cond.selects RX6 yX6_change yX6_change, Cond.code yX6_change cX6_change 2 (some .int), Cond.methodLink RX6 117 yX6_changes, Cond.instanceMethod yX6_changes, Cond.selects RX6 yX6_changes yX6_changes, Cond.code yX6_changes cX6_changes 3 (some .int), Cond.methodLink RL 44 yX5_of, Cond.instanceMethod yX5_of, Cond.selects RX5 yX5_of yX5_of, Cond.code yX5_of cX5_of 4 (some .int), Cond.fieldLink RX5 84 "WinderLadders$State" "clocks" "[LWinderLadders$Clock;", Cond.fieldLink RX5 88 "WinderLadders$Clock" "house" "I", Cond.fieldLink RX5 94 "WinderLadders$Clock" "rungs" "I", Cond.fieldLink RX5 97 "WinderLadders$Clock" "drift" "I", Cond.fieldLink RX5 100 "WinderLadders$Clock" "screw" "I", Cond.fieldLink RX5 103 "WinderLadders$Clock" "off" "I", Cond.constant RX5 106 (1000000000), Cond.fieldLink RX5 107 "WinderLadders$Clock" "daysSinceWound" "I", Cond.fieldLink RX5 110 "WinderLadders$Clock" "goes" "Z", Cond.fieldLink RX5 114 "WinderLadders$State" "settings" "[I", Cond.fieldLink RX5 129 "WinderLadders$Clock" "timesWound" "I"]
def wsL_law_r17 : List Cond := [Cond.methodLink RX5 80 yX4_hasClock, Cond.methodLink RX5 118 yX0_isOffBeyond, Cond.methodLink RX5 121 yX4_ladderNeeded, Cond.methodLink RX5 125 yX4_canBeWound, Cond.methodLink RL 47 yX6_of, Cond.instanceMethod yX6_of, Cond.selects RX6 yX6_of yX6_of, Cond.code yX6_of cX6_of 3 (some .int), Cond.constant RX6 120 (1000000000), Cond.methodLink RX6 121 yX6_isOff, Cond.instanceMethod yX6_isOff, Cond.selects RX6 yX6_isOff yX6_isOff, Cond.code yX6_isOff cX6_isOff 2 (some .boolean), Cond.methodLink RL 48 yX5_ofLadder, Cond.instanceMethod yX5_ofLadder, Cond.selects RX5 yX5_ofLadder yX5_ofLadder, Cond.code yX5_ofLadder cX5_ofLadder 2 (some .int), Cond.fieldLink RX5 135 "WinderLadders$State" "ladders" "[I", Cond.methodLink RX5 132 yX4_hasLadder, Cond.instanceMethod yX4_hasLadder, Cond.selects RX4 yX4_hasLadder yX4_hasLadder, Cond.code yX4_hasLadder cX4_hasLadder 2 (some .boolean), Cond.methodLink RL 51 yX6_ofLadder, Cond.instanceMethod yX6_ofLadder]
def wsL_law_r18 : List Cond := [Cond.selects RX6 yX6_ofLadder yX6_ofLadder, Cond.code yX6_ofLadder cX6_ofLadder 2 (some .int), Cond.methodLink RL 52 yX5_count, Cond.instanceMethod yX5_count, Cond.selects RX5 yX5_count yX5_count, Cond.code yX5_count cX5_count 2 (some .int), Cond.fieldLink RX5 138 "WinderLadders$State" "days" "I", Cond.fieldLink RX5 144 "WinderLadders$State" "ladderCount" "I", Cond.fieldLink RX5 157 "WinderLadders$State" "minutes" "I", Cond.fieldLink RX5 163 "WinderLadders$Pad" "length" "I", Cond.fieldLink RX5 166 "WinderLadders$History" "depth" "I", Cond.methodLink RX5 147 yX4_setOfStill, Cond.instanceMethod yX4_setOfStill, Cond.selects RX4 yX4_setOfStill yX4_setOfStill, Cond.code yX4_setOfStill cX4_setOfStill 3 (some .int), Cond.methodLink RX5 151 yX4_numberOffBeyondTold, Cond.instanceMethod yX4_numberOffBeyondTold, Cond.selects RX4 yX4_numberOffBeyondTold yX4_numberOffBeyondTold, Cond.code yX4_numberOffBeyondTold cX4_numberOffBeyondTold 3 (some .int), Cond.methodLink RX4 119 yX0_isOffBeyond, Cond.methodLink RX5 154 yX4_numberThatCannotBeWound, Cond.instanceMethod yX4_numberThatCannotBeWound, Cond.selects RX4 yX4_numberThatCannotBeWound yX4_numberThatCannotBeWound, Cond.code yX4_numberThatCannotBeWound cX4_numberThatCannotBeWound 3 (some .int)]
def wsL_law_r19 : List Cond := [Cond.methodLink RX5 160 yX4_timesWoundInAll, Cond.instanceMethod yX4_timesWoundInAll, Cond.selects RX4 yX4_timesWoundInAll yX4_timesWoundInAll, Cond.code yX4_timesWoundInAll cX4_timesWoundInAll 3 (some .int), Cond.fieldLink RX4 122 "WinderLadders$Clock" "timesWound" "I", Cond.methodLink RL 55 yX6_count, Cond.instanceMethod yX6_count, Cond.selects RX6 yX6_count yX6_count, Cond.code yX6_count cX6_count 2 (some .int), Cond.fieldLink RX6 127 "WinderLaddersModel" "length" "I", Cond.methodLink RX6 124 yX6_sum, Cond.instanceMethod yX6_sum, Cond.selects RX6 yX6_sum yX6_sum, Cond.code yX6_sum cX6_sum 4 (some .int), Cond.methodLink RL 56 yX5_takes, Cond.instanceMethod yX5_takes, Cond.selects RX5 yX5_takes yX5_takes, Cond.code yX5_takes cX5_takes 3 (some .int), Cond.methodLink RX5 169 yX4_minutesOf, Cond.methodLink RL 59 yX6_takes, Cond.instanceMethod yX6_takes, Cond.selects RX6 yX6_takes yX6_takes, Cond.code yX6_takes cX6_takes 3 (some .int), Cond.methodLink RL 60 yX5_lasts]
def wsL_law_r20 : List Cond := [Cond.instanceMethod yX5_lasts, Cond.selects RX5 yX5_lasts yX5_lasts, Cond.code yX5_lasts cX5_lasts 2 (some .int), Cond.methodLink RX5 172 yX4_daysUntilOff, Cond.instanceMethod yX4_daysUntilOff, Cond.selects RX4 yX4_daysUntilOff yX4_daysUntilOff, Cond.code yX4_daysUntilOff cX4_daysUntilOff 2 (some .int), Cond.methodLink RX4 129 yX0_daysUntilOff, Cond.instanceMethod yX0_daysUntilOff, Cond.selects RX0 yX0_daysUntilOff yX0_daysUntilOff, Cond.code yX0_daysUntilOff cX0_daysUntilOff 5 (some .int), Cond.methodLink RX0 55 Lib.Math.max.name, Cond.static Lib.Math.max.name, Cond.code Lib.Math.max.name Lib.Math.max.code 2 (some .int), Cond.methodLink RL 63 yX6_lasts, Cond.instanceMethod yX6_lasts, Cond.selects RX6 yX6_lasts yX6_lasts, Cond.code yX6_lasts cX6_lasts 4 (some .int), Cond.methodLink RX6 130 yX6_keepClock, Cond.instanceMethod yX6_keepClock, Cond.selects RX6 yX6_keepClock yX6_keepClock, Cond.code yX6_keepClock cX6_keepClock 3 none, Cond.methodLink RL 64 yX5_needs, Cond.instanceMethod yX5_needs]
def wsL_law_r21 : List Cond := [Cond.selects RX5 yX5_needs yX5_needs, Cond.code yX5_needs cX5_needs 3 (some .int), Cond.methodLink RX5 175 yX4_rankOf, Cond.instanceMethod yX4_rankOf, Cond.selects RX4 yX4_rankOf yX4_rankOf, Cond.code yX4_rankOf cX4_rankOf 6 (some .int), Cond.methodLink RX4 132 yX4_daysUntilOff, Cond.methodLink RL 67 yX6_needs, Cond.instanceMethod yX6_needs, Cond.selects RX6 yX6_needs yX6_needs, Cond.code yX6_needs cX6_needs 5 (some .int), Cond.methodLink RX6 133 yX6_lasts, Cond.methodLink RL 68 yX5_ladderFor, Cond.instanceMethod yX5_ladderFor, Cond.selects RX5 yX5_ladderFor yX5_ladderFor, Cond.code yX5_ladderFor cX5_ladderFor 2 (some .int), Cond.methodLink RX5 178 yX4_rungsOutOfReach, Cond.instanceMethod yX4_rungsOutOfReach, Cond.selects RX4 yX4_rungsOutOfReach yX4_rungsOutOfReach, Cond.code yX4_rungsOutOfReach cX4_rungsOutOfReach 3 (some .int), Cond.methodLink RX4 125 Lib.Math.max.name, Cond.methodLink RL 72 yX6_ladderFor, Cond.instanceMethod yX6_ladderFor, Cond.selects RX6 yX6_ladderFor yX6_ladderFor]
def wsL_law_r22 : List Cond := [Cond.code yX6_ladderFor cX6_ladderFor 3 (some .int), Cond.methodLink RL 73 yX5_wayRound, Cond.instanceMethod yX5_wayRound, Cond.selects RX5 yX5_wayRound yX5_wayRound, Cond.code yX5_wayRound cX5_wayRound 5 (some .int), Cond.methodLink RX5 181 yX3_turnRound, Cond.instanceMethod yX3_turnRound, Cond.selects RX3 yX3_turnRound yX3_turnRound, Cond.code yX3_turnRound cX3_turnRound 3 none, Cond.methodLink RL 76 yX6_wayRound, Cond.instanceMethod yX6_wayRound, Cond.selects RX6 yX6_wayRound yX6_wayRound, Cond.code yX6_wayRound cX6_wayRound 6 (some .int), Cond.methodLink RL 79 yX5_put, Cond.instanceMethod yX5_put, Cond.selects RX5 yX5_put yX5_put, Cond.code yX5_put cX5_put 5 (some .int), Cond.methodLink RX5 184 yX5_signsIn, Cond.static yX5_signsIn, Cond.code yX5_signsIn cX5_signsIn 4 (some .int), Cond.methodLink RX5 188 yX5_codeAt, Cond.static yX5_codeAt, Cond.code yX5_codeAt cX5_codeAt 3 (some .int), Cond.methodLink RX5 192 yX2_append]
def wsL_law_r23 : List Cond := [Cond.instanceMethod yX2_append, Cond.selects RX2 yX2_append yX2_append, Cond.code yX2_append cX2_append 2 none, Cond.fieldLink RX2 22 "WinderLadders$Pad" "length" "I", Cond.methodLink RL 83 yX6_put, Cond.instanceMethod yX6_put, Cond.selects RX6 yX6_put yX6_put, Cond.code yX6_put cX6_put 8 (some .int), Cond.constantLong RX6 136 (255), Cond.methodLink RL 84 yX5_wipe, Cond.instanceMethod yX5_wipe, Cond.selects RX5 yX5_wipe yX5_wipe, Cond.code yX5_wipe cX5_wipe 2 (some .int), Cond.methodLink RL 87 yX6_wipe, Cond.instanceMethod yX6_wipe, Cond.selects RX6 yX6_wipe yX6_wipe, Cond.code yX6_wipe cX6_wipe 2 (some .int), Cond.methodLink RL 88 yX5_fault, Cond.instanceMethod yX5_fault, Cond.selects RX5 yX5_fault yX5_fault, Cond.code yX5_fault cX5_fault 1 (some .int), Cond.methodLink RX5 196 yX2_findFault, Cond.instanceMethod yX2_findFault, Cond.selects RX2 yX2_findFault yX2_findFault]
def wsL_law_r24 : List Cond := [Cond.code yX2_findFault cX2_findFault 2 (some .int), Cond.fieldLink RX2 33 "WinderLadders$Pad" "place" "I", Cond.methodLink RX2 26 yX2_goToStart, Cond.instanceMethod yX2_goToStart, Cond.selects RX2 yX2_goToStart yX2_goToStart, Cond.code yX2_goToStart cX2_goToStart 1 none, Cond.methodLink RX2 29 yX2_readNext, Cond.instanceMethod yX2_readNext, Cond.selects RX2 yX2_readNext yX2_readNext, Cond.code yX2_readNext cX2_readNext 1 (some .boolean), Cond.fieldLink RX2 47 "WinderLadders$Pad" "kind" "I", Cond.methodLink RX2 36 yX2_take, Cond.instanceMethod yX2_take, Cond.selects RX2 yX2_take yX2_take, Cond.code yX2_take cX2_take 2 (some .boolean), Cond.methodLink RX2 43 yX2_here, Cond.instanceMethod yX2_here, Cond.selects RX2 yX2_here yX2_here, Cond.code yX2_here cX2_here 1 (some .char), Cond.methodLink RX2 40 yX3_clear, Cond.methodLink RX2 50 yX2_readNumber, Cond.instanceMethod yX2_readNumber, Cond.selects RX2 yX2_readNumber yX2_readNumber, Cond.code yX2_readNumber cX2_readNumber 3 (some .boolean)]
def wsL_law_r25 : List Cond := [Cond.methodLink RX2 60 yX2_isDigit, Cond.static yX2_isDigit, Cond.code yX2_isDigit cX2_isDigit 1 (some .boolean), Cond.methodLink RX2 63 yX3_add, Cond.methodLink RX2 54 yX2_readValue, Cond.instanceMethod yX2_readValue, Cond.selects RX2 yX2_readValue yX2_readValue, Cond.code yX2_readValue cX2_readValue 1 (some .boolean), Cond.methodLink RX2 57 yX2_readNumbers, Cond.instanceMethod yX2_readNumbers, Cond.selects RX2 yX2_readNumbers yX2_readNumbers, Cond.code yX2_readNumbers cX2_readNumbers 2 (some .boolean), Cond.methodLink RL 91 yX6_fault, Cond.instanceMethod yX6_fault, Cond.selects RX6 yX6_fault yX6_fault, Cond.code yX6_fault cX6_fault 2 (some .int), Cond.fieldLink RX6 141 "WinderLaddersModel" "isWrong" "Z", Cond.fieldLink RX6 138 "WinderLaddersModel" "place" "I", Cond.methodLink RX6 177 yX6_go, Cond.instanceMethod yX6_go, Cond.selects RX6 yX6_go yX6_go, Cond.code yX6_go cX6_go 6 (some .int), Cond.methodLink RX6 170 yX6_order, Cond.instanceMethod yX6_order]
def wsL_law_r26 : List Cond := [Cond.selects RX6 yX6_order yX6_order, Cond.code yX6_order cX6_order 5 none, Cond.fieldLink RX6 152 "WinderLaddersModel" "letter" "I", Cond.fieldLink RX6 158 "WinderLaddersModel" "one" "I", Cond.fieldLink RX6 161 "WinderLaddersModel" "two" "I", Cond.fieldLink RX6 164 "WinderLaddersModel" "three" "I", Cond.methodLink RX6 155 yX6_number, Cond.instanceMethod yX6_number, Cond.selects RX6 yX6_number yX6_number, Cond.code yX6_number cX6_number 2 (some .int), Cond.methodLink RX6 145 yX6_sign, Cond.instanceMethod yX6_sign, Cond.selects RX6 yX6_sign yX6_sign, Cond.code yX6_sign cX6_sign 4 (some .int), Cond.methodLink RX6 148 yX6_isNext, Cond.instanceMethod yX6_isNext, Cond.selects RX6 yX6_isNext yX6_isNext, Cond.code yX6_isNext cX6_isNext 3 (some .boolean), Cond.methodLink RX6 173 yX6_does, Cond.instanceMethod yX6_does, Cond.selects RX6 yX6_does yX6_does, Cond.code yX6_does cX6_does 4 (some .boolean), Cond.methodLink RX6 167 yX6_rowFault, Cond.instanceMethod yX6_rowFault]
def wsL_law_r27 : List Cond := [Cond.selects RX6 yX6_rowFault yX6_rowFault, Cond.code yX6_rowFault cX6_rowFault 3 (some .int), Cond.methodLink RL 92 yX5_carryOut, Cond.instanceMethod yX5_carryOut, Cond.selects RX5 yX5_carryOut yX5_carryOut, Cond.code yX5_carryOut cX5_carryOut 2 (some .int), Cond.methodLink RX5 199 yX5_carryOrdersOut, Cond.instanceMethod yX5_carryOrdersOut, Cond.selects RX5 yX5_carryOrdersOut yX5_carryOrdersOut, Cond.code yX5_carryOrdersOut cX5_carryOrdersOut 2 (some .int), Cond.methodLink RX5 219 yX2_goToStart, Cond.methodLink RX5 222 yX2_readNext, Cond.methodLink RX5 226 yX5_carryOneOut, Cond.instanceMethod yX5_carryOneOut, Cond.selects RX5 yX5_carryOneOut yX5_carryOneOut, Cond.code yX5_carryOneOut cX5_carryOneOut 2 (some .int), Cond.fieldLink RX5 229 "WinderLadders$Pad" "numbers" "LWinderLadders$Row;", Cond.fieldLink RX5 232 "WinderLadders$Pad" "kind" "I", Cond.methodLink RX5 235 yX3_at, Cond.methodLink RL 95 yX6_carryOut, Cond.instanceMethod yX6_carryOut, Cond.selects RX6 yX6_carryOut yX6_carryOut, Cond.code yX6_carryOut cX6_carryOut 3 (some .int), Cond.methodLink RL 96 yX5_undo]
def wsL_law_r28 : List Cond := [Cond.instanceMethod yX5_undo, Cond.selects RX5 yX5_undo yX5_undo, Cond.code yX5_undo cX5_undo 1 (some .int), Cond.methodLink RX5 202 yX1_takeBack, Cond.instanceMethod yX1_takeBack, Cond.selects RX1 yX1_takeBack yX1_takeBack, Cond.code yX1_takeBack cX1_takeBack 2 (some .boolean), Cond.methodLink RL 99 yX6_undo, Cond.instanceMethod yX6_undo, Cond.selects RX6 yX6_undo yX6_undo, Cond.code yX6_undo cX6_undo 2 (some .int), Cond.methodLink RL 100 yX5_save, Cond.instanceMethod yX5_save, Cond.selects RX5 yX5_save yX5_save, Cond.code yX5_save cX5_save 2 (some .int), Cond.methodLink RX5 206 yX4_copyFrom, Cond.methodLink RL 103 yX6_save, Cond.instanceMethod yX6_save, Cond.selects RX6 yX6_save yX6_save, Cond.code yX6_save cX6_save 3 (some .int), Cond.methodLink RL 104 yX5_restore, Cond.instanceMethod yX5_restore, Cond.selects RX5 yX5_restore yX5_restore, Cond.code yX5_restore cX5_restore 2 (some .int)]
def wsL_law_r29 : List Cond := [Cond.methodLink RL 107 yX6_restore, Cond.instanceMethod yX6_restore, Cond.selects RX6 yX6_restore yX6_restore, Cond.code yX6_restore cX6_restore 3 (some .int)]
def wsL_law : List Cond := (wsL_law_r1 ++ (wsL_law_r2 ++ (wsL_law_r3 ++ (wsL_law_r4 ++ (wsL_law_r5 ++ (wsL_law_r6 ++ (wsL_law_r7 ++ (wsL_law_r8 ++ (wsL_law_r9 ++ (wsL_law_r10 ++ (wsL_law_r11 ++ (wsL_law_r12 ++ (wsL_law_r13 ++ (wsL_law_r14 ++ (wsL_law_r15 ++ (wsL_law_r16 ++ (wsL_law_r17 ++ (wsL_law_r18 ++ (wsL_law_r19 ++ (wsL_law_r20 ++ (wsL_law_r21 ++ (wsL_law_r22 ++ (wsL_law_r23 ++ (wsL_law_r24 ++ (wsL_law_r25 ++ (wsL_law_r26 ++ (wsL_law_r27 ++ (wsL_law_r28 ++ wsL_law_r29)))))))))))))))))))))))))))) ++ wsX50 ++ wsX60 ++ wsX40 ++ wsX10 ++ wsX20 ++ wsX30 ++ wsX00 ++ ([] : List Cond)
theorem dL_law_679 : decode cL_law 679 = .ok (.ireturn, 1) := by decide +kernel
end
section
theorem dX0_init_0 : decode cX0_init 0 = .ok (.aload_n 0, 1) := by decide +kernel
theorem dX0_init_1 : decode cX0_init 1 = .ok (.invokespecial 3, 3) := by decide +kernel
theorem dX0_init_4 : decode cX0_init 4 = .ok (.return_, 1) := by decide +kernel
theorem dX0_copyFrom_0 : decode cX0_copyFrom 0 = .ok (.aload_n 0, 1) := by decide +kernel
theorem dX0_copyFrom_1 : decode cX0_copyFrom 1 = .ok (.aload_n 1, 1) := by decide +kernel
theorem dX0_copyFrom_2 : decode cX0_copyFrom 2 = .ok (.getfield 9, 3) := by decide +kernel
theorem dX0_copyFrom_5 : decode cX0_copyFrom 5 = .ok (.putfield 9, 3) := by decide +kernel
theorem dX0_copyFrom_8 : decode cX0_copyFrom 8 = .ok (.aload_n 0, 1) := by decide +kernel
theorem dX0_copyFrom_9 : decode cX0_copyFrom 9 = .ok (.aload_n 1, 1) := by decide +kernel
theorem dX0_copyFrom_10 : decode cX0_copyFrom 10 = .ok (.getfield 15, 3) := by decide +kernel
theorem dX0_copyFrom_13 : decode cX0_copyFrom 13 = .ok (.putfield 15, 3) := by decide +kernel
theorem dX0_copyFrom_16 : decode cX0_copyFrom 16 = .ok (.aload_n 0, 1) := by decide +kernel
theorem dX0_copyFrom_17 : decode cX0_copyFrom 17 = .ok (.aload_n 1, 1) := by decide +kernel
theorem dX0_copyFrom_18 : decode cX0_copyFrom 18 = .ok (.getfield 18, 3) := by decide +kernel
theorem dX0_copyFrom_21 : decode cX0_copyFrom 21 = .ok (.putfield 18, 3) := by decide +kernel
theorem dX0_copyFrom_24 : decode cX0_copyFrom 24 = .ok (.aload_n 0, 1) := by decide +kernel
theorem dX0_copyFrom_25 : decode cX0_copyFrom 25 = .ok (.aload_n 1, 1) := by decide +kernel
theorem dX0_copyFrom_26 : decode cX0_copyFrom 26 = .ok (.getfield 21, 3) := by decide +kernel
theorem dX0_copyFrom_29 : decode cX0_copyFrom 29 = .ok (.putfield 21, 3) := by decide +kernel
theorem dX0_copyFrom_32 : decode cX0_copyFrom 32 = .ok (.aload_n 0, 1) := by decide +kernel
theorem dX0_copyFrom_33 : decode cX0_copyFrom 33 = .ok (.aload_n 1, 1) := by decide +kernel
theorem dX0_copyFrom_34 : decode cX0_copyFrom 34 = .ok (.getfield 24, 3) := by decide +kernel
theorem dX0_copyFrom_37 : decode cX0_copyFrom 37 = .ok (.putfield 24, 3) := by decide +kernel
theorem dX0_copyFrom_40 : decode cX0_copyFrom 40 = .ok (.aload_n 0, 1) := by decide +kernel
theorem dX0_copyFrom_41 : decode cX0_copyFrom 41 = .ok (.aload_n 1, 1) := by decide +kernel
theorem dX0_copyFrom_42 : decode cX0_copyFrom 42 = .ok (.getfield 27, 3) := by decide +kernel
theorem dX0_copyFrom_45 : decode cX0_copyFrom 45 = .ok (.putfield 27, 3) := by decide +kernel
theorem dX0_copyFrom_48 : decode cX0_copyFrom 48 = .ok (.aload_n 0, 1) := by decide +kernel
theorem dX0_copyFrom_49 : decode cX0_copyFrom 49 = .ok (.aload_n 1, 1) := by decide +kernel
theorem dX0_copyFrom_50 : decode cX0_copyFrom 50 = .ok (.getfield 30, 3) := by decide +kernel
theorem dX0_copyFrom_53 : decode cX0_copyFrom 53 = .ok (.putfield 30, 3) := by decide +kernel
theorem dX0_copyFrom_56 : decode cX0_copyFrom 56 = .ok (.aload_n 0, 1) := by decide +kernel
theorem dX0_copyFrom_57 : decode cX0_copyFrom 57 = .ok (.aload_n 1, 1) := by decide +kernel
theorem dX0_copyFrom_58 : decode cX0_copyFrom 58 = .ok (.getfield 33, 3) := by decide +kernel
theorem dX0_copyFrom_61 : decode cX0_copyFrom 61 = .ok (.putfield 33, 3) := by decide +kernel
theorem dX0_copyFrom_64 : decode cX0_copyFrom 64 = .ok (.return_, 1) := by decide +kernel
theorem dX0_begin_0 : decode cX0_begin 0 = .ok (.aload_n 0, 1) := by decide +kernel
theorem dX0_begin_1 : decode cX0_begin 1 = .ok (.iload_n 1, 1) := by decide +kernel
theorem dX0_begin_2 : decode cX0_begin 2 = .ok (.putfield 9, 3) := by decide +kernel
theorem dX0_begin_5 : decode cX0_begin 5 = .ok (.aload_n 0, 1) := by decide +kernel
theorem dX0_begin_6 : decode cX0_begin 6 = .ok (.iload_n 2, 1) := by decide +kernel
theorem dX0_begin_7 : decode cX0_begin 7 = .ok (.putfield 15, 3) := by decide +kernel
theorem dX0_begin_10 : decode cX0_begin 10 = .ok (.aload_n 0, 1) := by decide +kernel
theorem dX0_begin_11 : decode cX0_begin 11 = .ok (.iload_n 3, 1) := by decide +kernel
theorem dX0_begin_12 : decode cX0_begin 12 = .ok (.putfield 18, 3) := by decide +kernel
theorem dX0_begin_15 : decode cX0_begin 15 = .ok (.aload_n 0, 1) := by decide +kernel
theorem dX0_begin_16 : decode cX0_begin 16 = .ok (.iconst 0, 1) := by decide +kernel
theorem dX0_begin_17 : decode cX0_begin 17 = .ok (.putfield 21, 3) := by decide +kernel
theorem dX0_begin_20 : decode cX0_begin 20 = .ok (.aload_n 0, 1) := by decide +kernel
theorem dX0_begin_21 : decode cX0_begin 21 = .ok (.iconst 0, 1) := by decide +kernel
theorem dX0_begin_22 : decode cX0_begin 22 = .ok (.putfield 24, 3) := by decide +kernel
theorem dX0_begin_25 : decode cX0_begin 25 = .ok (.aload_n 0, 1) := by decide +kernel
theorem dX0_begin_26 : decode cX0_begin 26 = .ok (.iconst 0, 1) := by decide +kernel
theorem dX0_begin_27 : decode cX0_begin 27 = .ok (.putfield 27, 3) := by decide +kernel
theorem dX0_begin_30 : decode cX0_begin 30 = .ok (.aload_n 0, 1) := by decide +kernel
theorem dX0_begin_31 : decode cX0_begin 31 = .ok (.iconst 0, 1) := by decide +kernel
theorem dX0_begin_32 : decode cX0_begin 32 = .ok (.putfield 30, 3) := by decide +kernel
theorem dX0_begin_35 : decode cX0_begin 35 = .ok (.aload_n 0, 1) := by decide +kernel
theorem dX0_begin_36 : decode cX0_begin 36 = .ok (.iconst 1, 1) := by decide +kernel
theorem dX0_begin_37 : decode cX0_begin 37 = .ok (.putfield 33, 3) := by decide +kernel
theorem dX0_begin_40 : decode cX0_begin 40 = .ok (.return_, 1) := by decide +kernel
theorem dX0_driftWithScrew_0 : decode cX0_driftWithScrew 0 = .ok (.aload_n 0, 1) := by decide +kernel
theorem dX0_driftWithScrew_1 : decode cX0_driftWithScrew 1 = .ok (.getfield 18, 3) := by decide +kernel
theorem dX0_driftWithScrew_4 : decode cX0_driftWithScrew 4 = .ok (.iconst 3, 1) := by decide +kernel
theorem dX0_driftWithScrew_5 : decode cX0_driftWithScrew 5 = .ok (.aload_n 0, 1) := by decide +kernel
theorem dX0_driftWithScrew_6 : decode cX0_driftWithScrew 6 = .ok (.getfield 21, 3) := by decide +kernel
theorem dX0_driftWithScrew_9 : decode cX0_driftWithScrew 9 = .ok (.imul, 1) := by decide +kernel
theorem dX0_driftWithScrew_10 : decode cX0_driftWithScrew 10 = .ok (.iadd, 1) := by decide +kernel
theorem dX0_driftWithScrew_11 : decode cX0_driftWithScrew 11 = .ok (.ireturn, 1) := by decide +kernel
theorem dX0_isOffBeyond_0 : decode cX0_isOffBeyond 0 = .ok (.aload_n 0, 1) := by decide +kernel
theorem dX0_isOffBeyond_1 : decode cX0_isOffBeyond 1 = .ok (.getfield 24, 3) := by decide +kernel
theorem dX0_isOffBeyond_4 : decode cX0_isOffBeyond 4 = .ok (.invokestatic 37, 3) := by decide +kernel
theorem dX0_isOffBeyond_7 : decode cX0_isOffBeyond 7 = .ok (.iload_n 1, 1) := by decide +kernel
theorem dX0_isOffBeyond_8 : decode cX0_isOffBeyond 8 = .ok (.if_icmp .le 7, 3) := by decide +kernel
theorem dX0_isOffBeyond_11 : decode cX0_isOffBeyond 11 = .ok (.iconst 1, 1) := by decide +kernel
theorem dX0_isOffBeyond_12 : decode cX0_isOffBeyond 12 = .ok (.goto 4, 3) := by decide +kernel
theorem dX0_isOffBeyond_15 : decode cX0_isOffBeyond 15 = .ok (.iconst 0, 1) := by decide +kernel
theorem dX0_isOffBeyond_16 : decode cX0_isOffBeyond 16 = .ok (.ireturn, 1) := by decide +kernel
set_option maxRecDepth 20000 in
theorem ggX0_passDay_X0_driftWithScrew : GoodIn wsX0_passDay wsX0_driftWithScrew := goodIn_r _ [9, 10, 11, 12, 13, 14, 15, 16, 17, 18, 19] (by decide +kernel) (by decide +kernel)
set_option maxRecDepth 20000 in
theorem gX0_passDay_X0_driftWithScrew : GoodIn wsX0_passDay (wsV RX0 43 RX0 yX0_driftWithScrew wsX0_driftWithScrew) := goodIn_app (goodIn_of _ (by decide +kernel)) ggX0_passDay_X0_driftWithScrew
theorem dX0_passDay_0 : decode cX0_passDay 0 = .ok (.aload_n 0, 1) := by decide +kernel
theorem dX0_passDay_1 : decode cX0_passDay 1 = .ok (.getfield 33, 3) := by decide +kernel
theorem dX0_passDay_4 : decode cX0_passDay 4 = .ok (.ifCond .eq 16, 3) := by decide +kernel
theorem dX0_passDay_7 : decode cX0_passDay 7 = .ok (.aload_n 0, 1) := by decide +kernel
theorem dX0_passDay_8 : decode cX0_passDay 8 = .ok (.dup, 1) := by decide +kernel
theorem dX0_passDay_9 : decode cX0_passDay 9 = .ok (.getfield 24, 3) := by decide +kernel
theorem dX0_passDay_12 : decode cX0_passDay 12 = .ok (.aload_n 0, 1) := by decide +kernel
theorem dX0_passDay_13 : decode cX0_passDay 13 = .ok (.invokevirtual 43, 3) := by decide +kernel
theorem dX0_passDay_16 : decode cX0_passDay 16 = .ok (.iadd, 1) := by decide +kernel
theorem dX0_passDay_17 : decode cX0_passDay 17 = .ok (.putfield 24, 3) := by decide +kernel
theorem dX0_passDay_20 : decode cX0_passDay 20 = .ok (.aload_n 0, 1) := by decide +kernel
theorem dX0_passDay_21 : decode cX0_passDay 21 = .ok (.dup, 1) := by decide +kernel
theorem dX0_passDay_22 : decode cX0_passDay 22 = .ok (.getfield 27, 3) := by decide +kernel
theorem dX0_passDay_25 : decode cX0_passDay 25 = .ok (.iconst 1, 1) := by decide +kernel
theorem dX0_passDay_26 : decode cX0_passDay 26 = .ok (.iadd, 1) := by decide +kernel
theorem dX0_passDay_27 : decode cX0_passDay 27 = .ok (.putfield 27, 3) := by decide +kernel
theorem dX0_passDay_30 : decode cX0_passDay 30 = .ok (.aload_n 0, 1) := by decide +kernel
theorem dX0_passDay_31 : decode cX0_passDay 31 = .ok (.getfield 27, 3) := by decide +kernel
theorem dX0_passDay_34 : decode cX0_passDay 34 = .ok (.iload_n 1, 1) := by decide +kernel
theorem dX0_passDay_35 : decode cX0_passDay 35 = .ok (.if_icmp .le 14, 3) := by decide +kernel
theorem dX0_passDay_38 : decode cX0_passDay 38 = .ok (.aload_n 0, 1) := by decide +kernel
theorem dX0_passDay_39 : decode cX0_passDay 39 = .ok (.iconst 0, 1) := by decide +kernel
theorem dX0_passDay_40 : decode cX0_passDay 40 = .ok (.putfield 33, 3) := by decide +kernel
theorem dX0_passDay_43 : decode cX0_passDay 43 = .ok (.aload_n 0, 1) := by decide +kernel
theorem dX0_passDay_44 : decode cX0_passDay 44 = .ok (.ldc 47, 2) := by decide +kernel
theorem dX0_passDay_46 : decode cX0_passDay 46 = .ok (.putfield 24, 3) := by decide +kernel
theorem dX0_passDay_49 : decode cX0_passDay 49 = .ok (.return_, 1) := by decide +kernel
set_option maxRecDepth 20000 in
theorem ggX0_windAndSet_X0_isOffBeyond : GoodIn wsX0_windAndSet wsX0_isOffBeyond := goodIn_r _ [9, 2, 10, 11, 12, 13, 24, 25, 26, 27, 28, 29, 30, 31] (by decide +kernel) (by decide +kernel)
set_option maxRecDepth 20000 in
theorem gX0_windAndSet_X0_isOffBeyond : GoodIn wsX0_windAndSet (wsV RX0 48 RX0 yX0_isOffBeyond wsX0_isOffBeyond) := goodIn_app (goodIn_of _ (by decide +kernel)) ggX0_windAndSet_X0_isOffBeyond
set_option maxRecDepth 20000 in
theorem ggX0_windAndSet_X0_turnByRule : GoodIn wsX0_windAndSet wsX0_turnByRule := goodIn_r _ [17, 18, 19, 20, 21, 8, 22, 23, 24, 25, 26, 27, 28, 29, 30, 31] (by decide +kernel) (by decide +kernel)
set_option maxRecDepth 20000 in
theorem gX0_windAndSet_X0_turnByRule : GoodIn wsX0_windAndSet (wsV RX0 52 RX0 yX0_turnByRule wsX0_turnByRule) := goodIn_app (goodIn_of _ (by decide +kernel)) ggX0_windAndSet_X0_turnByRule
theorem dX0_windAndSet_0 : decode cX0_windAndSet 0 = .ok (.aload_n 0, 1) := by decide +kernel
theorem dX0_windAndSet_1 : decode cX0_windAndSet 1 = .ok (.getfield 33, 3) := by decide +kernel
theorem dX0_windAndSet_4 : decode cX0_windAndSet 4 = .ok (.ifCond .eq 17, 3) := by decide +kernel
theorem dX0_windAndSet_7 : decode cX0_windAndSet 7 = .ok (.aload_n 0, 1) := by decide +kernel
theorem dX0_windAndSet_8 : decode cX0_windAndSet 8 = .ok (.iload_n 1, 1) := by decide +kernel
theorem dX0_windAndSet_9 : decode cX0_windAndSet 9 = .ok (.iconst 2, 1) := by decide +kernel
theorem dX0_windAndSet_10 : decode cX0_windAndSet 10 = .ok (.idiv, 1) := by decide +kernel
theorem dX0_windAndSet_11 : decode cX0_windAndSet 11 = .ok (.invokevirtual 48, 3) := by decide +kernel
theorem dX0_windAndSet_14 : decode cX0_windAndSet 14 = .ok (.ifCond .eq 7, 3) := by decide +kernel
theorem dX0_windAndSet_17 : decode cX0_windAndSet 17 = .ok (.aload_n 0, 1) := by decide +kernel
theorem dX0_windAndSet_18 : decode cX0_windAndSet 18 = .ok (.invokevirtual 52, 3) := by decide +kernel
theorem dX0_windAndSet_21 : decode cX0_windAndSet 21 = .ok (.aload_n 0, 1) := by decide +kernel
theorem dX0_windAndSet_22 : decode cX0_windAndSet 22 = .ok (.iconst 1, 1) := by decide +kernel
theorem dX0_windAndSet_23 : decode cX0_windAndSet 23 = .ok (.putfield 33, 3) := by decide +kernel
theorem dX0_windAndSet_26 : decode cX0_windAndSet 26 = .ok (.aload_n 0, 1) := by decide +kernel
theorem dX0_windAndSet_27 : decode cX0_windAndSet 27 = .ok (.iconst 0, 1) := by decide +kernel
theorem dX0_windAndSet_28 : decode cX0_windAndSet 28 = .ok (.putfield 24, 3) := by decide +kernel
theorem dX0_windAndSet_31 : decode cX0_windAndSet 31 = .ok (.aload_n 0, 1) := by decide +kernel
theorem dX0_windAndSet_32 : decode cX0_windAndSet 32 = .ok (.iconst 0, 1) := by decide +kernel
theorem dX0_windAndSet_33 : decode cX0_windAndSet 33 = .ok (.putfield 27, 3) := by decide +kernel
theorem dX0_windAndSet_36 : decode cX0_windAndSet 36 = .ok (.aload_n 0, 1) := by decide +kernel
theorem dX0_windAndSet_37 : decode cX0_windAndSet 37 = .ok (.dup, 1) := by decide +kernel
theorem dX0_windAndSet_38 : decode cX0_windAndSet 38 = .ok (.getfield 30, 3) := by decide +kernel
theorem dX0_windAndSet_41 : decode cX0_windAndSet 41 = .ok (.iconst 1, 1) := by decide +kernel
theorem dX0_windAndSet_42 : decode cX0_windAndSet 42 = .ok (.iadd, 1) := by decide +kernel
theorem dX0_windAndSet_43 : decode cX0_windAndSet 43 = .ok (.putfield 30, 3) := by decide +kernel
theorem dX0_windAndSet_46 : decode cX0_windAndSet 46 = .ok (.return_, 1) := by decide +kernel
set_option maxRecDepth 20000 in
theorem ggX0_turnByRule_X0_driftWithScrew : GoodIn wsX0_turnByRule wsX0_driftWithScrew := goodIn_r _ [6, 7, 1, 8, 9, 10, 11, 12, 13, 14, 15] (by decide +kernel) (by decide +kernel)
set_option maxRecDepth 20000 in
theorem gX0_turnByRule_X0_driftWithScrew : GoodIn wsX0_turnByRule (wsV RX0 43 RX0 yX0_driftWithScrew wsX0_driftWithScrew) := goodIn_app (goodIn_of _ (by decide +kernel)) ggX0_turnByRule_X0_driftWithScrew
theorem dX0_turnByRule_0 : decode cX0_turnByRule 0 = .ok (.aload_n 0, 1) := by decide +kernel
theorem dX0_turnByRule_1 : decode cX0_turnByRule 1 = .ok (.invokevirtual 43, 3) := by decide +kernel
theorem dX0_turnByRule_4 : decode cX0_turnByRule 4 = .ok (.istore_n 1, 1) := by decide +kernel
theorem dX0_turnByRule_5 : decode cX0_turnByRule 5 = .ok (.iload_n 1, 1) := by decide +kernel
theorem dX0_turnByRule_6 : decode cX0_turnByRule 6 = .ok (.ifCond .le 25, 3) := by decide +kernel
theorem dX0_turnByRule_9 : decode cX0_turnByRule 9 = .ok (.aload_n 0, 1) := by decide +kernel
theorem dX0_turnByRule_10 : decode cX0_turnByRule 10 = .ok (.getfield 21, 3) := by decide +kernel
theorem dX0_turnByRule_13 : decode cX0_turnByRule 13 = .ok (.bipush (-20), 2) := by decide +kernel
theorem dX0_turnByRule_15 : decode cX0_turnByRule 15 = .ok (.if_icmp .le 16, 3) := by decide +kernel
theorem dX0_turnByRule_18 : decode cX0_turnByRule 18 = .ok (.aload_n 0, 1) := by decide +kernel
theorem dX0_turnByRule_19 : decode cX0_turnByRule 19 = .ok (.dup, 1) := by decide +kernel
theorem dX0_turnByRule_20 : decode cX0_turnByRule 20 = .ok (.getfield 21, 3) := by decide +kernel
theorem dX0_turnByRule_23 : decode cX0_turnByRule 23 = .ok (.iconst 1, 1) := by decide +kernel
theorem dX0_turnByRule_24 : decode cX0_turnByRule 24 = .ok (.isub, 1) := by decide +kernel
theorem dX0_turnByRule_25 : decode cX0_turnByRule 25 = .ok (.putfield 21, 3) := by decide +kernel
theorem dX0_turnByRule_28 : decode cX0_turnByRule 28 = .ok (.goto 26, 3) := by decide +kernel
theorem dX0_turnByRule_31 : decode cX0_turnByRule 31 = .ok (.iload_n 1, 1) := by decide +kernel
theorem dX0_turnByRule_32 : decode cX0_turnByRule 32 = .ok (.ifCond .ge 22, 3) := by decide +kernel
theorem dX0_turnByRule_35 : decode cX0_turnByRule 35 = .ok (.aload_n 0, 1) := by decide +kernel
theorem dX0_turnByRule_36 : decode cX0_turnByRule 36 = .ok (.getfield 21, 3) := by decide +kernel
theorem dX0_turnByRule_39 : decode cX0_turnByRule 39 = .ok (.bipush 20, 2) := by decide +kernel
theorem dX0_turnByRule_41 : decode cX0_turnByRule 41 = .ok (.if_icmp .ge 13, 3) := by decide +kernel
theorem dX0_turnByRule_44 : decode cX0_turnByRule 44 = .ok (.aload_n 0, 1) := by decide +kernel
theorem dX0_turnByRule_45 : decode cX0_turnByRule 45 = .ok (.dup, 1) := by decide +kernel
theorem dX0_turnByRule_46 : decode cX0_turnByRule 46 = .ok (.getfield 21, 3) := by decide +kernel
theorem dX0_turnByRule_49 : decode cX0_turnByRule 49 = .ok (.iconst 1, 1) := by decide +kernel
theorem dX0_turnByRule_50 : decode cX0_turnByRule 50 = .ok (.iadd, 1) := by decide +kernel
theorem dX0_turnByRule_51 : decode cX0_turnByRule 51 = .ok (.putfield 21, 3) := by decide +kernel
theorem dX0_turnByRule_54 : decode cX0_turnByRule 54 = .ok (.return_, 1) := by decide +kernel
set_option maxRecDepth 20000 in
theorem ggX0_daysUntilOff_X0_isOffBeyond : GoodIn wsX0_daysUntilOff wsX0_isOffBeyond := goodIn_r _ [14, 6, 7, 8, 4, 9, 21, 22, 23, 24, 25, 26, 27, 28] (by decide +kernel) (by decide +kernel)
set_option maxRecDepth 20000 in
theorem gX0_daysUntilOff_X0_isOffBeyond : GoodIn wsX0_daysUntilOff (wsV RX0 48 RX0 yX0_isOffBeyond wsX0_isOffBeyond) := goodIn_app (goodIn_of _ (by decide +kernel)) ggX0_daysUntilOff_X0_isOffBeyond
set_option maxRecDepth 20000 in
theorem ggX0_daysUntilOff_X0_driftWithScrew : GoodIn wsX0_daysUntilOff wsX0_driftWithScrew := goodIn_r _ [18, 19, 20, 21, 22, 23, 24, 25, 26, 27, 28] (by decide +kernel) (by decide +kernel)
set_option maxRecDepth 20000 in
theorem gX0_daysUntilOff_X0_driftWithScrew : GoodIn wsX0_daysUntilOff (wsV RX0 43 RX0 yX0_driftWithScrew wsX0_driftWithScrew) := goodIn_app (goodIn_of _ (by decide +kernel)) ggX0_daysUntilOff_X0_driftWithScrew
theorem dX0_daysUntilOff_0 : decode cX0_daysUntilOff 0 = .ok (.aload_n 0, 1) := by decide +kernel
theorem dX0_daysUntilOff_1 : decode cX0_daysUntilOff 1 = .ok (.iload_n 1, 1) := by decide +kernel
theorem dX0_daysUntilOff_2 : decode cX0_daysUntilOff 2 = .ok (.invokevirtual 48, 3) := by decide +kernel
theorem dX0_daysUntilOff_5 : decode cX0_daysUntilOff 5 = .ok (.ifCond .eq 5, 3) := by decide +kernel
theorem dX0_daysUntilOff_8 : decode cX0_daysUntilOff 8 = .ok (.iconst 0, 1) := by decide +kernel
theorem dX0_daysUntilOff_9 : decode cX0_daysUntilOff 9 = .ok (.ireturn, 1) := by decide +kernel
theorem dX0_daysUntilOff_10 : decode cX0_daysUntilOff 10 = .ok (.iconst 1, 1) := by decide +kernel
theorem dX0_daysUntilOff_11 : decode cX0_daysUntilOff 11 = .ok (.iload_n 2, 1) := by decide +kernel
theorem dX0_daysUntilOff_12 : decode cX0_daysUntilOff 12 = .ok (.iconst 1, 1) := by decide +kernel
theorem dX0_daysUntilOff_13 : decode cX0_daysUntilOff 13 = .ok (.iadd, 1) := by decide +kernel
theorem dX0_daysUntilOff_14 : decode cX0_daysUntilOff 14 = .ok (.aload_n 0, 1) := by decide +kernel
theorem dX0_daysUntilOff_15 : decode cX0_daysUntilOff 15 = .ok (.getfield 27, 3) := by decide +kernel
theorem dX0_daysUntilOff_18 : decode cX0_daysUntilOff 18 = .ok (.isub, 1) := by decide +kernel
theorem dX0_daysUntilOff_19 : decode cX0_daysUntilOff 19 = .ok (.invokestatic 55, 3) := by decide +kernel
theorem dX0_daysUntilOff_22 : decode cX0_daysUntilOff 22 = .ok (.istore_n 3, 1) := by decide +kernel
theorem dX0_daysUntilOff_23 : decode cX0_daysUntilOff 23 = .ok (.iconst 1, 1) := by decide +kernel
theorem dX0_daysUntilOff_24 : decode cX0_daysUntilOff 24 = .ok (.istore 4, 2) := by decide +kernel
theorem dX0_daysUntilOff_26 : decode cX0_daysUntilOff 26 = .ok (.iload 4, 2) := by decide +kernel
theorem dX0_daysUntilOff_28 : decode cX0_daysUntilOff 28 = .ok (.iload_n 3, 1) := by decide +kernel
theorem dX0_daysUntilOff_29 : decode cX0_daysUntilOff 29 = .ok (.if_icmp .ge 31, 3) := by decide +kernel
theorem dX0_daysUntilOff_32 : decode cX0_daysUntilOff 32 = .ok (.aload_n 0, 1) := by decide +kernel
theorem dX0_daysUntilOff_33 : decode cX0_daysUntilOff 33 = .ok (.getfield 24, 3) := by decide +kernel
theorem dX0_daysUntilOff_36 : decode cX0_daysUntilOff 36 = .ok (.iload 4, 2) := by decide +kernel
theorem dX0_daysUntilOff_38 : decode cX0_daysUntilOff 38 = .ok (.aload_n 0, 1) := by decide +kernel
theorem dX0_daysUntilOff_39 : decode cX0_daysUntilOff 39 = .ok (.invokevirtual 43, 3) := by decide +kernel
theorem dX0_daysUntilOff_42 : decode cX0_daysUntilOff 42 = .ok (.imul, 1) := by decide +kernel
theorem dX0_daysUntilOff_43 : decode cX0_daysUntilOff 43 = .ok (.iadd, 1) := by decide +kernel
theorem dX0_daysUntilOff_44 : decode cX0_daysUntilOff 44 = .ok (.invokestatic 37, 3) := by decide +kernel
theorem dX0_daysUntilOff_47 : decode cX0_daysUntilOff 47 = .ok (.iload_n 1, 1) := by decide +kernel
theorem dX0_daysUntilOff_48 : decode cX0_daysUntilOff 48 = .ok (.if_icmp .le 6, 3) := by decide +kernel
theorem dX0_daysUntilOff_51 : decode cX0_daysUntilOff 51 = .ok (.iload 4, 2) := by decide +kernel
theorem dX0_daysUntilOff_53 : decode cX0_daysUntilOff 53 = .ok (.ireturn, 1) := by decide +kernel
theorem dX0_daysUntilOff_54 : decode cX0_daysUntilOff 54 = .ok (.iinc 4 1, 3) := by decide +kernel
theorem dX0_daysUntilOff_57 : decode cX0_daysUntilOff 57 = .ok (.goto (-31), 3) := by decide +kernel
theorem dX0_daysUntilOff_60 : decode cX0_daysUntilOff 60 = .ok (.iload_n 3, 1) := by decide +kernel
theorem dX0_daysUntilOff_61 : decode cX0_daysUntilOff 61 = .ok (.ireturn, 1) := by decide +kernel
set_option maxRecDepth 20000 in
theorem ggX1_init_X4_init : GoodIn wsX1_init wsX4_init := goodIn_r _ [10, 11, 2, 3, 12, 13, 14, 15, 16, 17, 18, 19, 20, 21, 22, 23, 24, 25, 28, 29, 30, 31, 32, 33, 34, 35, 36, 37, 38, 39, 40, 41, 42] (by decide +kernel) (by decide +kernel)
set_option maxRecDepth 20000 in
theorem gX1_init_X4_init : GoodIn wsX1_init (wsX4_init) := ggX1_init_X4_init
theorem dX1_init_0 : decode cX1_init 0 = .ok (.aload_n 0, 1) := by decide +kernel
theorem dX1_init_1 : decode cX1_init 1 = .ok (.invokespecial 3, 3) := by decide +kernel
theorem dX1_init_4 : decode cX1_init 4 = .ok (.aload_n 0, 1) := by decide +kernel
theorem dX1_init_5 : decode cX1_init 5 = .ok (.bipush 7, 2) := by decide +kernel
theorem dX1_init_7 : decode cX1_init 7 = .ok (.anewarray 9, 3) := by decide +kernel
theorem dX1_init_10 : decode cX1_init 10 = .ok (.putfield 11, 3) := by decide +kernel
theorem dX1_init_13 : decode cX1_init 13 = .ok (.iconst 0, 1) := by decide +kernel
theorem dX1_init_14 : decode cX1_init 14 = .ok (.istore_n 1, 1) := by decide +kernel
theorem dX1_init_15 : decode cX1_init 15 = .ok (.iload_n 1, 1) := by decide +kernel
theorem dX1_init_16 : decode cX1_init 16 = .ok (.bipush 6, 2) := by decide +kernel
theorem dX1_init_18 : decode cX1_init 18 = .ok (.if_icmp .gt 22, 3) := by decide +kernel
theorem dX1_init_21 : decode cX1_init 21 = .ok (.aload_n 0, 1) := by decide +kernel
theorem dX1_init_22 : decode cX1_init 22 = .ok (.getfield 11, 3) := by decide +kernel
theorem dX1_init_25 : decode cX1_init 25 = .ok (.iload_n 1, 1) := by decide +kernel
theorem dX1_init_26 : decode cX1_init 26 = .ok (.new 9, 3) := by decide +kernel
theorem dX1_init_29 : decode cX1_init 29 = .ok (.dup, 1) := by decide +kernel
theorem dX1_init_30 : decode cX1_init 30 = .ok (.invokespecial 17, 3) := by decide +kernel
theorem dX1_init_33 : decode cX1_init 33 = .ok (.aastore, 1) := by decide +kernel
theorem dX1_init_34 : decode cX1_init 34 = .ok (.iinc 1 1, 3) := by decide +kernel
theorem dX1_init_37 : decode cX1_init 37 = .ok (.goto (-22), 3) := by decide +kernel
theorem dX1_init_40 : decode cX1_init 40 = .ok (.return_, 1) := by decide +kernel
set_option maxRecDepth 20000 in
theorem ggX1_prepare_X4_copyFrom : GoodIn wsX1_prepare wsX4_copyFrom := goodIn_r _ [7, 8, 9, 10, 11, 12, 13, 14, 15, 16, 17, 18, 19, 20, 21, 22, 23, 24, 25, 26, 27, 28, 29, 30, 31, 34, 35, 36, 37, 38, 39, 40, 41, 42, 43, 44, 45, 46, 47, 48] (by decide +kernel) (by decide +kernel)
set_option maxRecDepth 20000 in
theorem gX1_prepare_X4_copyFrom : GoodIn wsX1_prepare (wsV RX1 22 RX4 yX4_copyFrom wsX4_copyFrom) := goodIn_app (goodIn_of _ (by decide +kernel)) ggX1_prepare_X4_copyFrom
theorem dX1_prepare_0 : decode cX1_prepare 0 = .ok (.aload_n 0, 1) := by decide +kernel
theorem dX1_prepare_1 : decode cX1_prepare 1 = .ok (.getfield 11, 3) := by decide +kernel
theorem dX1_prepare_4 : decode cX1_prepare 4 = .ok (.aload_n 0, 1) := by decide +kernel
theorem dX1_prepare_5 : decode cX1_prepare 5 = .ok (.getfield 18, 3) := by decide +kernel
theorem dX1_prepare_8 : decode cX1_prepare 8 = .ok (.aaload, 1) := by decide +kernel
theorem dX1_prepare_9 : decode cX1_prepare 9 = .ok (.aload_n 1, 1) := by decide +kernel
theorem dX1_prepare_10 : decode cX1_prepare 10 = .ok (.invokevirtual 22, 3) := by decide +kernel
theorem dX1_prepare_13 : decode cX1_prepare 13 = .ok (.return_, 1) := by decide +kernel
set_option maxRecDepth 20000 in
theorem ggX1_keepPrepared_X1_dropOldest : GoodIn wsX1_keepPrepared wsX1_dropOldest := goodIn_r _ [6, 7, 8, 9] (by decide +kernel) (by decide +kernel)
set_option maxRecDepth 20000 in
theorem gX1_keepPrepared_X1_dropOldest : GoodIn wsX1_keepPrepared (wsV RX1 26 RX1 yX1_dropOldest wsX1_dropOldest) := goodIn_app (goodIn_of _ (by decide +kernel)) ggX1_keepPrepared_X1_dropOldest
theorem dX1_keepPrepared_0 : decode cX1_keepPrepared 0 = .ok (.aload_n 0, 1) := by decide +kernel
theorem dX1_keepPrepared_1 : decode cX1_keepPrepared 1 = .ok (.getfield 18, 3) := by decide +kernel
theorem dX1_keepPrepared_4 : decode cX1_keepPrepared 4 = .ok (.bipush 6, 2) := by decide +kernel
theorem dX1_keepPrepared_6 : decode cX1_keepPrepared 6 = .ok (.if_icmp .ge 16, 3) := by decide +kernel
theorem dX1_keepPrepared_9 : decode cX1_keepPrepared 9 = .ok (.aload_n 0, 1) := by decide +kernel
theorem dX1_keepPrepared_10 : decode cX1_keepPrepared 10 = .ok (.dup, 1) := by decide +kernel
theorem dX1_keepPrepared_11 : decode cX1_keepPrepared 11 = .ok (.getfield 18, 3) := by decide +kernel
theorem dX1_keepPrepared_14 : decode cX1_keepPrepared 14 = .ok (.iconst 1, 1) := by decide +kernel
theorem dX1_keepPrepared_15 : decode cX1_keepPrepared 15 = .ok (.iadd, 1) := by decide +kernel
theorem dX1_keepPrepared_16 : decode cX1_keepPrepared 16 = .ok (.putfield 18, 3) := by decide +kernel
theorem dX1_keepPrepared_19 : decode cX1_keepPrepared 19 = .ok (.goto 7, 3) := by decide +kernel
theorem dX1_keepPrepared_22 : decode cX1_keepPrepared 22 = .ok (.aload_n 0, 1) := by decide +kernel
theorem dX1_keepPrepared_23 : decode cX1_keepPrepared 23 = .ok (.invokevirtual 26, 3) := by decide +kernel
theorem dX1_keepPrepared_26 : decode cX1_keepPrepared 26 = .ok (.return_, 1) := by decide +kernel
theorem dX1_dropOldest_0 : decode cX1_dropOldest 0 = .ok (.aload_n 0, 1) := by decide +kernel
theorem dX1_dropOldest_1 : decode cX1_dropOldest 1 = .ok (.getfield 11, 3) := by decide +kernel
theorem dX1_dropOldest_4 : decode cX1_dropOldest 4 = .ok (.iconst 0, 1) := by decide +kernel
theorem dX1_dropOldest_5 : decode cX1_dropOldest 5 = .ok (.aaload, 1) := by decide +kernel
theorem dX1_dropOldest_6 : decode cX1_dropOldest 6 = .ok (.astore_n 1, 1) := by decide +kernel
theorem dX1_dropOldest_7 : decode cX1_dropOldest 7 = .ok (.iconst 0, 1) := by decide +kernel
theorem dX1_dropOldest_8 : decode cX1_dropOldest 8 = .ok (.istore_n 2, 1) := by decide +kernel
theorem dX1_dropOldest_9 : decode cX1_dropOldest 9 = .ok (.iload_n 2, 1) := by decide +kernel
theorem dX1_dropOldest_10 : decode cX1_dropOldest 10 = .ok (.bipush 6, 2) := by decide +kernel
theorem dX1_dropOldest_12 : decode cX1_dropOldest 12 = .ok (.if_icmp .ge 23, 3) := by decide +kernel
theorem dX1_dropOldest_15 : decode cX1_dropOldest 15 = .ok (.aload_n 0, 1) := by decide +kernel
theorem dX1_dropOldest_16 : decode cX1_dropOldest 16 = .ok (.getfield 11, 3) := by decide +kernel
theorem dX1_dropOldest_19 : decode cX1_dropOldest 19 = .ok (.iload_n 2, 1) := by decide +kernel
theorem dX1_dropOldest_20 : decode cX1_dropOldest 20 = .ok (.aload_n 0, 1) := by decide +kernel
theorem dX1_dropOldest_21 : decode cX1_dropOldest 21 = .ok (.getfield 11, 3) := by decide +kernel
theorem dX1_dropOldest_24 : decode cX1_dropOldest 24 = .ok (.iload_n 2, 1) := by decide +kernel
theorem dX1_dropOldest_25 : decode cX1_dropOldest 25 = .ok (.iconst 1, 1) := by decide +kernel
theorem dX1_dropOldest_26 : decode cX1_dropOldest 26 = .ok (.iadd, 1) := by decide +kernel
theorem dX1_dropOldest_27 : decode cX1_dropOldest 27 = .ok (.aaload, 1) := by decide +kernel
theorem dX1_dropOldest_28 : decode cX1_dropOldest 28 = .ok (.aastore, 1) := by decide +kernel
theorem dX1_dropOldest_29 : decode cX1_dropOldest 29 = .ok (.iinc 2 1, 3) := by decide +kernel
theorem dX1_dropOldest_32 : decode cX1_dropOldest 32 = .ok (.goto (-23), 3) := by decide +kernel
theorem dX1_dropOldest_35 : decode cX1_dropOldest 35 = .ok (.aload_n 0, 1) := by decide +kernel
theorem dX1_dropOldest_36 : decode cX1_dropOldest 36 = .ok (.getfield 11, 3) := by decide +kernel
theorem dX1_dropOldest_39 : decode cX1_dropOldest 39 = .ok (.bipush 6, 2) := by decide +kernel
theorem dX1_dropOldest_41 : decode cX1_dropOldest 41 = .ok (.aload_n 1, 1) := by decide +kernel
theorem dX1_dropOldest_42 : decode cX1_dropOldest 42 = .ok (.aastore, 1) := by decide +kernel
theorem dX1_dropOldest_43 : decode cX1_dropOldest 43 = .ok (.return_, 1) := by decide +kernel
set_option maxRecDepth 20000 in
theorem ggX1_takeBack_X4_copyFrom : GoodIn wsX1_takeBack wsX4_copyFrom := goodIn_r _ [7, 8, 9, 10, 11, 12, 13, 14, 15, 16, 17, 18, 19, 20, 21, 22, 23, 24, 25, 26, 27, 28, 29, 30, 31, 34, 35, 36, 37, 38, 39, 40, 41, 42, 43, 44, 45, 46, 47, 48] (by decide +kernel) (by decide +kernel)
set_option maxRecDepth 20000 in
theorem gX1_takeBack_X4_copyFrom : GoodIn wsX1_takeBack (wsV RX1 22 RX4 yX4_copyFrom wsX4_copyFrom) := goodIn_app (goodIn_of _ (by decide +kernel)) ggX1_takeBack_X4_copyFrom
theorem dX1_takeBack_0 : decode cX1_takeBack 0 = .ok (.aload_n 0, 1) := by decide +kernel
theorem dX1_takeBack_1 : decode cX1_takeBack 1 = .ok (.getfield 18, 3) := by decide +kernel
theorem dX1_takeBack_4 : decode cX1_takeBack 4 = .ok (.ifCond .ne 5, 3) := by decide +kernel
theorem dX1_takeBack_7 : decode cX1_takeBack 7 = .ok (.iconst 0, 1) := by decide +kernel
theorem dX1_takeBack_8 : decode cX1_takeBack 8 = .ok (.ireturn, 1) := by decide +kernel
theorem dX1_takeBack_9 : decode cX1_takeBack 9 = .ok (.aload_n 0, 1) := by decide +kernel
theorem dX1_takeBack_10 : decode cX1_takeBack 10 = .ok (.dup, 1) := by decide +kernel
theorem dX1_takeBack_11 : decode cX1_takeBack 11 = .ok (.getfield 18, 3) := by decide +kernel
theorem dX1_takeBack_14 : decode cX1_takeBack 14 = .ok (.iconst 1, 1) := by decide +kernel
theorem dX1_takeBack_15 : decode cX1_takeBack 15 = .ok (.isub, 1) := by decide +kernel
theorem dX1_takeBack_16 : decode cX1_takeBack 16 = .ok (.putfield 18, 3) := by decide +kernel
theorem dX1_takeBack_19 : decode cX1_takeBack 19 = .ok (.aload_n 1, 1) := by decide +kernel
theorem dX1_takeBack_20 : decode cX1_takeBack 20 = .ok (.aload_n 0, 1) := by decide +kernel
theorem dX1_takeBack_21 : decode cX1_takeBack 21 = .ok (.getfield 11, 3) := by decide +kernel
theorem dX1_takeBack_24 : decode cX1_takeBack 24 = .ok (.aload_n 0, 1) := by decide +kernel
theorem dX1_takeBack_25 : decode cX1_takeBack 25 = .ok (.getfield 18, 3) := by decide +kernel
theorem dX1_takeBack_28 : decode cX1_takeBack 28 = .ok (.aaload, 1) := by decide +kernel
theorem dX1_takeBack_29 : decode cX1_takeBack 29 = .ok (.invokevirtual 22, 3) := by decide +kernel
theorem dX1_takeBack_32 : decode cX1_takeBack 32 = .ok (.iconst 1, 1) := by decide +kernel
theorem dX1_takeBack_33 : decode cX1_takeBack 33 = .ok (.ireturn, 1) := by decide +kernel
set_option maxRecDepth 20000 in
theorem ggX2_init_X3_init : GoodIn wsX2_init wsX3_init := goodIn_r _ [11, 12, 2, 3, 13, 14, 20, 21] (by decide +kernel) (by decide +kernel)
set_option maxRecDepth 20000 in
theorem gX2_init_X3_init_n17 : GoodIn wsX2_init (wsX3_init) := ggX2_init_X3_init
theorem dX2_init_0 : decode cX2_init 0 = .ok (.aload_n 0, 1) := by decide +kernel
theorem dX2_init_1 : decode cX2_init 1 = .ok (.invokespecial 3, 3) := by decide +kernel
theorem dX2_init_4 : decode cX2_init 4 = .ok (.aload_n 0, 1) := by decide +kernel
theorem dX2_init_5 : decode cX2_init 5 = .ok (.bipush 80, 2) := by decide +kernel
theorem dX2_init_7 : decode cX2_init 7 = .ok (.newarray .char, 2) := by decide +kernel
theorem dX2_init_9 : decode cX2_init 9 = .ok (.putfield 9, 3) := by decide +kernel
theorem dX2_init_12 : decode cX2_init 12 = .ok (.aload_n 0, 1) := by decide +kernel
theorem dX2_init_13 : decode cX2_init 13 = .ok (.new 15, 3) := by decide +kernel
theorem dX2_init_16 : decode cX2_init 16 = .ok (.dup, 1) := by decide +kernel
theorem dX2_init_17 : decode cX2_init 17 = .ok (.invokespecial 17, 3) := by decide +kernel
theorem dX2_init_20 : decode cX2_init 20 = .ok (.putfield 18, 3) := by decide +kernel
theorem dX2_init_23 : decode cX2_init 23 = .ok (.return_, 1) := by decide +kernel
theorem dX2_append_0 : decode cX2_append 0 = .ok (.aload_n 0, 1) := by decide +kernel
theorem dX2_append_1 : decode cX2_append 1 = .ok (.getfield 22, 3) := by decide +kernel
theorem dX2_append_4 : decode cX2_append 4 = .ok (.bipush 80, 2) := by decide +kernel
theorem dX2_append_6 : decode cX2_append 6 = .ok (.if_icmp .ge 23, 3) := by decide +kernel
theorem dX2_append_9 : decode cX2_append 9 = .ok (.aload_n 0, 1) := by decide +kernel
theorem dX2_append_10 : decode cX2_append 10 = .ok (.getfield 9, 3) := by decide +kernel
theorem dX2_append_13 : decode cX2_append 13 = .ok (.aload_n 0, 1) := by decide +kernel
theorem dX2_append_14 : decode cX2_append 14 = .ok (.getfield 22, 3) := by decide +kernel
theorem dX2_append_17 : decode cX2_append 17 = .ok (.iload_n 1, 1) := by decide +kernel
theorem dX2_append_18 : decode cX2_append 18 = .ok (.castore, 1) := by decide +kernel
theorem dX2_append_19 : decode cX2_append 19 = .ok (.aload_n 0, 1) := by decide +kernel
theorem dX2_append_20 : decode cX2_append 20 = .ok (.dup, 1) := by decide +kernel
theorem dX2_append_21 : decode cX2_append 21 = .ok (.getfield 22, 3) := by decide +kernel
theorem dX2_append_24 : decode cX2_append 24 = .ok (.iconst 1, 1) := by decide +kernel
theorem dX2_append_25 : decode cX2_append 25 = .ok (.iadd, 1) := by decide +kernel
theorem dX2_append_26 : decode cX2_append 26 = .ok (.putfield 22, 3) := by decide +kernel
theorem dX2_append_29 : decode cX2_append 29 = .ok (.return_, 1) := by decide +kernel
set_option maxRecDepth 20000 in
theorem ggX2_findFault_X2_goToStart : GoodIn wsX2_findFault wsX2_goToStart := goodIn_r _ [7, 1, 49, 50, 51, 52, 53] (by decide +kernel) (by decide +kernel)
set_option maxRecDepth 20000 in
theorem gX2_findFault_X2_goToStart : GoodIn wsX2_findFault (wsV RX2 26 RX2 yX2_goToStart wsX2_goToStart) := goodIn_app (goodIn_of _ (by decide +kernel)) ggX2_findFault_X2_goToStart
set_option maxRecDepth 20000 in
theorem ggX2_findFault_X2_readNext : GoodIn wsX2_findFault wsX2_readNext := goodIn_r _ [11, 1, 12, 13, 14, 15, 16, 6, 17, 18, 19, 20, 21, 2, 22, 23, 24, 25, 26, 27, 28, 29, 30, 31, 32, 33, 34, 35, 36, 37, 38, 39, 40, 41, 42, 43, 44, 45, 46, 47, 48, 49, 50, 51, 52, 53, 54, 55] (by decide +kernel) (by decide +kernel)
set_option maxRecDepth 20000 in
theorem gX2_findFault_X2_readNext : GoodIn wsX2_findFault (wsV RX2 29 RX2 yX2_readNext wsX2_readNext) := goodIn_app (goodIn_of _ (by decide +kernel)) ggX2_findFault_X2_readNext
theorem dX2_findFault_0 : decode cX2_findFault 0 = .ok (.aload_n 0, 1) := by decide +kernel
theorem dX2_findFault_1 : decode cX2_findFault 1 = .ok (.invokevirtual 26, 3) := by decide +kernel
theorem dX2_findFault_4 : decode cX2_findFault 4 = .ok (.iconst 0, 1) := by decide +kernel
theorem dX2_findFault_5 : decode cX2_findFault 5 = .ok (.istore_n 1, 1) := by decide +kernel
theorem dX2_findFault_6 : decode cX2_findFault 6 = .ok (.iload_n 1, 1) := by decide +kernel
theorem dX2_findFault_7 : decode cX2_findFault 7 = .ok (.bipush 80, 2) := by decide +kernel
theorem dX2_findFault_9 : decode cX2_findFault 9 = .ok (.if_icmp .ge 35, 3) := by decide +kernel
theorem dX2_findFault_12 : decode cX2_findFault 12 = .ok (.aload_n 0, 1) := by decide +kernel
theorem dX2_findFault_13 : decode cX2_findFault 13 = .ok (.invokevirtual 29, 3) := by decide +kernel
theorem dX2_findFault_16 : decode cX2_findFault 16 = .ok (.ifCond .ne 8, 3) := by decide +kernel
theorem dX2_findFault_19 : decode cX2_findFault 19 = .ok (.aload_n 0, 1) := by decide +kernel
theorem dX2_findFault_20 : decode cX2_findFault 20 = .ok (.getfield 33, 3) := by decide +kernel
theorem dX2_findFault_23 : decode cX2_findFault 23 = .ok (.ireturn, 1) := by decide +kernel
theorem dX2_findFault_24 : decode cX2_findFault 24 = .ok (.aload_n 0, 1) := by decide +kernel
theorem dX2_findFault_25 : decode cX2_findFault 25 = .ok (.getfield 33, 3) := by decide +kernel
theorem dX2_findFault_28 : decode cX2_findFault 28 = .ok (.aload_n 0, 1) := by decide +kernel
theorem dX2_findFault_29 : decode cX2_findFault 29 = .ok (.getfield 22, 3) := by decide +kernel
theorem dX2_findFault_32 : decode cX2_findFault 32 = .ok (.if_icmp .lt 6, 3) := by decide +kernel
theorem dX2_findFault_35 : decode cX2_findFault 35 = .ok (.bipush (-6), 2) := by decide +kernel
theorem dX2_findFault_37 : decode cX2_findFault 37 = .ok (.ireturn, 1) := by decide +kernel
theorem dX2_findFault_38 : decode cX2_findFault 38 = .ok (.iinc 1 1, 3) := by decide +kernel
theorem dX2_findFault_41 : decode cX2_findFault 41 = .ok (.goto (-35), 3) := by decide +kernel
theorem dX2_findFault_44 : decode cX2_findFault 44 = .ok (.aload_n 0, 1) := by decide +kernel
theorem dX2_findFault_45 : decode cX2_findFault 45 = .ok (.getfield 33, 3) := by decide +kernel
theorem dX2_findFault_48 : decode cX2_findFault 48 = .ok (.ireturn, 1) := by decide +kernel
theorem dX2_goToStart_0 : decode cX2_goToStart 0 = .ok (.aload_n 0, 1) := by decide +kernel
theorem dX2_goToStart_1 : decode cX2_goToStart 1 = .ok (.iconst 0, 1) := by decide +kernel
theorem dX2_goToStart_2 : decode cX2_goToStart 2 = .ok (.putfield 33, 3) := by decide +kernel
theorem dX2_goToStart_5 : decode cX2_goToStart 5 = .ok (.return_, 1) := by decide +kernel
set_option maxRecDepth 20000 in
theorem ggX2_readNext_X2_take : GoodIn wsX2_readNext wsX2_take := goodIn_r _ [8, 1, 9, 10, 11, 7, 12, 13, 14, 41, 42, 43, 44, 45] (by decide +kernel) (by decide +kernel)
set_option maxRecDepth 20000 in
theorem gX2_readNext_X2_take : GoodIn wsX2_readNext (wsV RX2 36 RX2 yX2_take wsX2_take) := goodIn_app (goodIn_of _ (by decide +kernel)) ggX2_readNext_X2_take
set_option maxRecDepth 20000 in
theorem ggX2_readNext_X3_clear : GoodIn wsX2_readNext wsX3_clear := goodIn_r _ [19, 20, 46, 47] (by decide +kernel) (by decide +kernel)
set_option maxRecDepth 20000 in
theorem gX2_readNext_X3_clear : GoodIn wsX2_readNext (wsV RX2 40 RX3 yX3_clear wsX3_clear) := goodIn_app (goodIn_of _ (by decide +kernel)) ggX2_readNext_X3_clear
set_option maxRecDepth 20000 in
theorem ggX2_readNext_X2_here : GoodIn wsX2_readNext wsX2_here := goodIn_r _ [12, 1, 13, 14, 41, 42, 43, 44, 45] (by decide +kernel) (by decide +kernel)
set_option maxRecDepth 20000 in
theorem gX2_readNext_X2_here : GoodIn wsX2_readNext (wsV RX2 43 RX2 yX2_here wsX2_here) := goodIn_app (goodIn_of _ (by decide +kernel)) ggX2_readNext_X2_here
set_option maxRecDepth 20000 in
theorem ggX2_readNext_X2_readNumber : GoodIn wsX2_readNext wsX2_readNumber := goodIn_r _ [24, 1, 2, 9, 10, 11, 7, 12, 13, 14, 25, 26, 27, 28, 29, 30, 18, 31, 20, 32, 41, 42, 43, 44, 45, 46, 47] (by decide +kernel) (by decide +kernel)
set_option maxRecDepth 20000 in
theorem gX2_readNext_X2_readNumber : GoodIn wsX2_readNext (wsV RX2 50 RX2 yX2_readNumber wsX2_readNumber) := goodIn_app (goodIn_of _ (by decide +kernel)) ggX2_readNext_X2_readNumber
set_option maxRecDepth 20000 in
theorem ggX2_readNext_X2_readValue : GoodIn wsX2_readNext wsX2_readValue := goodIn_r _ [36, 4, 5, 6, 7, 8, 1, 9, 10, 11, 12, 13, 14, 21, 22, 23, 24, 2, 25, 26, 27, 28, 29, 30, 18, 31, 20, 32, 41, 42, 43, 44, 45, 46, 47] (by decide +kernel) (by decide +kernel)
set_option maxRecDepth 20000 in
theorem gX2_readNext_X2_readValue : GoodIn wsX2_readNext (wsV RX2 54 RX2 yX2_readValue wsX2_readValue) := goodIn_app (goodIn_of _ (by decide +kernel)) ggX2_readNext_X2_readValue
set_option maxRecDepth 20000 in
theorem ggX2_readNext_X2_readNumbers : GoodIn wsX2_readNext wsX2_readNumbers := goodIn_r _ [40, 21, 22, 23, 7, 24, 1, 2, 9, 10, 11, 12, 13, 14, 25, 26, 27, 28, 29, 30, 18, 31, 20, 32, 4, 5, 6, 8, 41, 42, 43, 44, 45, 46, 47] (by decide +kernel) (by decide +kernel)
set_option maxRecDepth 20000 in
theorem gX2_readNext_X2_readNumbers : GoodIn wsX2_readNext (wsV RX2 57 RX2 yX2_readNumbers wsX2_readNumbers) := goodIn_app (goodIn_of _ (by decide +kernel)) ggX2_readNext_X2_readNumbers
theorem dX2_readNext_0 : decode cX2_readNext 0 = .ok (.aload_n 0, 1) := by decide +kernel
theorem dX2_readNext_1 : decode cX2_readNext 1 = .ok (.getfield 33, 3) := by decide +kernel
theorem dX2_readNext_4 : decode cX2_readNext 4 = .ok (.ifCond .le 14, 3) := by decide +kernel
theorem dX2_readNext_7 : decode cX2_readNext 7 = .ok (.aload_n 0, 1) := by decide +kernel
theorem dX2_readNext_8 : decode cX2_readNext 8 = .ok (.bipush 59, 2) := by decide +kernel
theorem dX2_readNext_10 : decode cX2_readNext 10 = .ok (.invokevirtual 36, 3) := by decide +kernel
theorem dX2_readNext_13 : decode cX2_readNext 13 = .ok (.ifCond .ne 5, 3) := by decide +kernel
theorem dX2_readNext_16 : decode cX2_readNext 16 = .ok (.iconst 0, 1) := by decide +kernel
theorem dX2_readNext_17 : decode cX2_readNext 17 = .ok (.ireturn, 1) := by decide +kernel
theorem dX2_readNext_18 : decode cX2_readNext 18 = .ok (.aload_n 0, 1) := by decide +kernel
theorem dX2_readNext_19 : decode cX2_readNext 19 = .ok (.getfield 18, 3) := by decide +kernel
theorem dX2_readNext_22 : decode cX2_readNext 22 = .ok (.invokevirtual 40, 3) := by decide +kernel
theorem dX2_readNext_25 : decode cX2_readNext 25 = .ok (.aload_n 0, 1) := by decide +kernel
theorem dX2_readNext_26 : decode cX2_readNext 26 = .ok (.aload_n 0, 1) := by decide +kernel
theorem dX2_readNext_27 : decode cX2_readNext 27 = .ok (.invokevirtual 43, 3) := by decide +kernel
theorem dX2_readNext_30 : decode cX2_readNext 30 = .ok (.putfield 47, 3) := by decide +kernel
theorem dX2_readNext_33 : decode cX2_readNext 33 = .ok (.aload_n 0, 1) := by decide +kernel
theorem dX2_readNext_34 : decode cX2_readNext 34 = .ok (.getfield 47, 3) := by decide +kernel
theorem dX2_readNext_37 : decode cX2_readNext 37 = .ok (.lookupswitch 197 #[(43, 59), (97, 190), (98, 138), (108, 115), (115, 183), (116, 160)], 59) := by decide +kernel
theorem dX2_readNext_96 : decode cX2_readNext 96 = .ok (.aload_n 0, 1) := by decide +kernel
theorem dX2_readNext_97 : decode cX2_readNext 97 = .ok (.bipush 43, 2) := by decide +kernel
theorem dX2_readNext_99 : decode cX2_readNext 99 = .ok (.invokevirtual 36, 3) := by decide +kernel
theorem dX2_readNext_102 : decode cX2_readNext 102 = .ok (.ifCond .eq 48, 3) := by decide +kernel
theorem dX2_readNext_105 : decode cX2_readNext 105 = .ok (.aload_n 0, 1) := by decide +kernel
theorem dX2_readNext_106 : decode cX2_readNext 106 = .ok (.iconst 1, 1) := by decide +kernel
theorem dX2_readNext_107 : decode cX2_readNext 107 = .ok (.invokevirtual 50, 3) := by decide +kernel
theorem dX2_readNext_110 : decode cX2_readNext 110 = .ok (.ifCond .eq 40, 3) := by decide +kernel
theorem dX2_readNext_113 : decode cX2_readNext 113 = .ok (.aload_n 0, 1) := by decide +kernel
theorem dX2_readNext_114 : decode cX2_readNext 114 = .ok (.bipush 94, 2) := by decide +kernel
theorem dX2_readNext_116 : decode cX2_readNext 116 = .ok (.invokevirtual 36, 3) := by decide +kernel
theorem dX2_readNext_119 : decode cX2_readNext 119 = .ok (.ifCond .eq 31, 3) := by decide +kernel
theorem dX2_readNext_122 : decode cX2_readNext 122 = .ok (.aload_n 0, 1) := by decide +kernel
theorem dX2_readNext_123 : decode cX2_readNext 123 = .ok (.iconst 1, 1) := by decide +kernel
theorem dX2_readNext_124 : decode cX2_readNext 124 = .ok (.invokevirtual 50, 3) := by decide +kernel
theorem dX2_readNext_127 : decode cX2_readNext 127 = .ok (.ifCond .eq 23, 3) := by decide +kernel
theorem dX2_readNext_130 : decode cX2_readNext 130 = .ok (.aload_n 0, 1) := by decide +kernel
theorem dX2_readNext_131 : decode cX2_readNext 131 = .ok (.bipush 126, 2) := by decide +kernel
theorem dX2_readNext_133 : decode cX2_readNext 133 = .ok (.invokevirtual 36, 3) := by decide +kernel
theorem dX2_readNext_136 : decode cX2_readNext 136 = .ok (.ifCond .eq 14, 3) := by decide +kernel
theorem dX2_readNext_139 : decode cX2_readNext 139 = .ok (.aload_n 0, 1) := by decide +kernel
theorem dX2_readNext_140 : decode cX2_readNext 140 = .ok (.invokevirtual 54, 3) := by decide +kernel
theorem dX2_readNext_143 : decode cX2_readNext 143 = .ok (.ifCond .eq 7, 3) := by decide +kernel
theorem dX2_readNext_146 : decode cX2_readNext 146 = .ok (.iconst 1, 1) := by decide +kernel
theorem dX2_readNext_147 : decode cX2_readNext 147 = .ok (.goto 4, 3) := by decide +kernel
theorem dX2_readNext_150 : decode cX2_readNext 150 = .ok (.iconst 0, 1) := by decide +kernel
theorem dX2_readNext_151 : decode cX2_readNext 151 = .ok (.ireturn, 1) := by decide +kernel
theorem dX2_readNext_152 : decode cX2_readNext 152 = .ok (.aload_n 0, 1) := by decide +kernel
theorem dX2_readNext_153 : decode cX2_readNext 153 = .ok (.bipush 108, 2) := by decide +kernel
theorem dX2_readNext_155 : decode cX2_readNext 155 = .ok (.invokevirtual 36, 3) := by decide +kernel
theorem dX2_readNext_158 : decode cX2_readNext 158 = .ok (.ifCond .eq 15, 3) := by decide +kernel
theorem dX2_readNext_161 : decode cX2_readNext 161 = .ok (.aload_n 0, 1) := by decide +kernel
theorem dX2_readNext_162 : decode cX2_readNext 162 = .ok (.iconst 1, 1) := by decide +kernel
theorem dX2_readNext_163 : decode cX2_readNext 163 = .ok (.invokevirtual 50, 3) := by decide +kernel
theorem dX2_readNext_166 : decode cX2_readNext 166 = .ok (.ifCond .eq 7, 3) := by decide +kernel
theorem dX2_readNext_169 : decode cX2_readNext 169 = .ok (.iconst 1, 1) := by decide +kernel
theorem dX2_readNext_170 : decode cX2_readNext 170 = .ok (.goto 4, 3) := by decide +kernel
theorem dX2_readNext_173 : decode cX2_readNext 173 = .ok (.iconst 0, 1) := by decide +kernel
theorem dX2_readNext_174 : decode cX2_readNext 174 = .ok (.ireturn, 1) := by decide +kernel
theorem dX2_readNext_175 : decode cX2_readNext 175 = .ok (.aload_n 0, 1) := by decide +kernel
theorem dX2_readNext_176 : decode cX2_readNext 176 = .ok (.bipush 98, 2) := by decide +kernel
theorem dX2_readNext_178 : decode cX2_readNext 178 = .ok (.invokevirtual 36, 3) := by decide +kernel
theorem dX2_readNext_181 : decode cX2_readNext 181 = .ok (.ifCond .eq 14, 3) := by decide +kernel
theorem dX2_readNext_184 : decode cX2_readNext 184 = .ok (.aload_n 0, 1) := by decide +kernel
theorem dX2_readNext_185 : decode cX2_readNext 185 = .ok (.invokevirtual 57, 3) := by decide +kernel
theorem dX2_readNext_188 : decode cX2_readNext 188 = .ok (.ifCond .eq 7, 3) := by decide +kernel
theorem dX2_readNext_191 : decode cX2_readNext 191 = .ok (.iconst 1, 1) := by decide +kernel
theorem dX2_readNext_192 : decode cX2_readNext 192 = .ok (.goto 4, 3) := by decide +kernel
theorem dX2_readNext_195 : decode cX2_readNext 195 = .ok (.iconst 0, 1) := by decide +kernel
theorem dX2_readNext_196 : decode cX2_readNext 196 = .ok (.ireturn, 1) := by decide +kernel
theorem dX2_readNext_197 : decode cX2_readNext 197 = .ok (.aload_n 0, 1) := by decide +kernel
theorem dX2_readNext_198 : decode cX2_readNext 198 = .ok (.bipush 116, 2) := by decide +kernel
theorem dX2_readNext_200 : decode cX2_readNext 200 = .ok (.invokevirtual 36, 3) := by decide +kernel
theorem dX2_readNext_203 : decode cX2_readNext 203 = .ok (.ifCond .eq 15, 3) := by decide +kernel
theorem dX2_readNext_206 : decode cX2_readNext 206 = .ok (.aload_n 0, 1) := by decide +kernel
theorem dX2_readNext_207 : decode cX2_readNext 207 = .ok (.iconst 1, 1) := by decide +kernel
theorem dX2_readNext_208 : decode cX2_readNext 208 = .ok (.invokevirtual 50, 3) := by decide +kernel
theorem dX2_readNext_211 : decode cX2_readNext 211 = .ok (.ifCond .eq 7, 3) := by decide +kernel
theorem dX2_readNext_214 : decode cX2_readNext 214 = .ok (.iconst 1, 1) := by decide +kernel
theorem dX2_readNext_215 : decode cX2_readNext 215 = .ok (.goto 4, 3) := by decide +kernel
theorem dX2_readNext_218 : decode cX2_readNext 218 = .ok (.iconst 0, 1) := by decide +kernel
theorem dX2_readNext_219 : decode cX2_readNext 219 = .ok (.ireturn, 1) := by decide +kernel
theorem dX2_readNext_220 : decode cX2_readNext 220 = .ok (.aload_n 0, 1) := by decide +kernel
theorem dX2_readNext_221 : decode cX2_readNext 221 = .ok (.bipush 115, 2) := by decide +kernel
theorem dX2_readNext_223 : decode cX2_readNext 223 = .ok (.invokevirtual 36, 3) := by decide +kernel
theorem dX2_readNext_226 : decode cX2_readNext 226 = .ok (.ireturn, 1) := by decide +kernel
theorem dX2_readNext_227 : decode cX2_readNext 227 = .ok (.aload_n 0, 1) := by decide +kernel
theorem dX2_readNext_228 : decode cX2_readNext 228 = .ok (.bipush 97, 2) := by decide +kernel
theorem dX2_readNext_230 : decode cX2_readNext 230 = .ok (.invokevirtual 36, 3) := by decide +kernel
theorem dX2_readNext_233 : decode cX2_readNext 233 = .ok (.ireturn, 1) := by decide +kernel
theorem dX2_readNext_234 : decode cX2_readNext 234 = .ok (.iconst 0, 1) := by decide +kernel
theorem dX2_readNext_235 : decode cX2_readNext 235 = .ok (.ireturn, 1) := by decide +kernel
set_option maxRecDepth 20000 in
theorem ggX2_readNumbers_X2_readNumber : GoodIn wsX2_readNumbers wsX2_readNumber := goodIn_r _ [5, 6, 7, 8, 9, 10, 4, 11, 12, 13, 14, 15, 16, 17, 18, 19, 20, 21, 22, 23, 28, 29, 30, 31, 32, 33, 34] (by decide +kernel) (by decide +kernel)
set_option maxRecDepth 20000 in
theorem gX2_readNumbers_X2_readNumber : GoodIn wsX2_readNumbers (wsV RX2 50 RX2 yX2_readNumber wsX2_readNumber) := goodIn_app (goodIn_of _ (by decide +kernel)) ggX2_readNumbers_X2_readNumber
set_option maxRecDepth 20000 in
theorem ggX2_readNumbers_X2_take : GoodIn wsX2_readNumbers wsX2_take := goodIn_r _ [27, 6, 8, 9, 10, 4, 11, 12, 13, 28, 29, 30, 31, 32] (by decide +kernel) (by decide +kernel)
set_option maxRecDepth 20000 in
theorem gX2_readNumbers_X2_take : GoodIn wsX2_readNumbers (wsV RX2 36 RX2 yX2_take wsX2_take) := goodIn_app (goodIn_of _ (by decide +kernel)) ggX2_readNumbers_X2_take
theorem dX2_readNumbers_0 : decode cX2_readNumbers 0 = .ok (.iconst 0, 1) := by decide +kernel
theorem dX2_readNumbers_1 : decode cX2_readNumbers 1 = .ok (.istore_n 1, 1) := by decide +kernel
theorem dX2_readNumbers_2 : decode cX2_readNumbers 2 = .ok (.iload_n 1, 1) := by decide +kernel
theorem dX2_readNumbers_3 : decode cX2_readNumbers 3 = .ok (.bipush 40, 2) := by decide +kernel
theorem dX2_readNumbers_5 : decode cX2_readNumbers 5 = .ok (.if_icmp .ge 30, 3) := by decide +kernel
theorem dX2_readNumbers_8 : decode cX2_readNumbers 8 = .ok (.aload_n 0, 1) := by decide +kernel
theorem dX2_readNumbers_9 : decode cX2_readNumbers 9 = .ok (.iconst 1, 1) := by decide +kernel
theorem dX2_readNumbers_10 : decode cX2_readNumbers 10 = .ok (.invokevirtual 50, 3) := by decide +kernel
theorem dX2_readNumbers_13 : decode cX2_readNumbers 13 = .ok (.ifCond .ne 5, 3) := by decide +kernel
theorem dX2_readNumbers_16 : decode cX2_readNumbers 16 = .ok (.iconst 0, 1) := by decide +kernel
theorem dX2_readNumbers_17 : decode cX2_readNumbers 17 = .ok (.ireturn, 1) := by decide +kernel
theorem dX2_readNumbers_18 : decode cX2_readNumbers 18 = .ok (.aload_n 0, 1) := by decide +kernel
theorem dX2_readNumbers_19 : decode cX2_readNumbers 19 = .ok (.bipush 44, 2) := by decide +kernel
theorem dX2_readNumbers_21 : decode cX2_readNumbers 21 = .ok (.invokevirtual 36, 3) := by decide +kernel
theorem dX2_readNumbers_24 : decode cX2_readNumbers 24 = .ok (.ifCond .ne 5, 3) := by decide +kernel
theorem dX2_readNumbers_27 : decode cX2_readNumbers 27 = .ok (.iconst 1, 1) := by decide +kernel
theorem dX2_readNumbers_28 : decode cX2_readNumbers 28 = .ok (.ireturn, 1) := by decide +kernel
theorem dX2_readNumbers_29 : decode cX2_readNumbers 29 = .ok (.iinc 1 1, 3) := by decide +kernel
theorem dX2_readNumbers_32 : decode cX2_readNumbers 32 = .ok (.goto (-30), 3) := by decide +kernel
theorem dX2_readNumbers_35 : decode cX2_readNumbers 35 = .ok (.iconst 0, 1) := by decide +kernel
theorem dX2_readNumbers_36 : decode cX2_readNumbers 36 = .ok (.ireturn, 1) := by decide +kernel
set_option maxRecDepth 20000 in
theorem ggX2_readValue_X2_take : GoodIn wsX2_readValue wsX2_take := goodIn_r _ [5, 6, 7, 8, 9, 4, 10, 11, 12, 28, 29, 30, 31, 32] (by decide +kernel) (by decide +kernel)
set_option maxRecDepth 20000 in
theorem gX2_readValue_X2_take : GoodIn wsX2_readValue (wsV RX2 36 RX2 yX2_take wsX2_take) := goodIn_app (goodIn_of _ (by decide +kernel)) ggX2_readValue_X2_take
set_option maxRecDepth 20000 in
theorem ggX2_readValue_X2_readNumber : GoodIn wsX2_readValue wsX2_readNumber := goodIn_r _ [16, 6, 17, 7, 8, 9, 4, 10, 11, 12, 18, 19, 20, 21, 22, 23, 24, 25, 26, 27, 28, 29, 30, 31, 32, 33, 34] (by decide +kernel) (by decide +kernel)
set_option maxRecDepth 20000 in
theorem gX2_readValue_X2_readNumber : GoodIn wsX2_readValue (wsV RX2 50 RX2 yX2_readNumber wsX2_readNumber) := goodIn_app (goodIn_of _ (by decide +kernel)) ggX2_readValue_X2_readNumber
theorem dX2_readValue_0 : decode cX2_readValue 0 = .ok (.aload_n 0, 1) := by decide +kernel
theorem dX2_readValue_1 : decode cX2_readValue 1 = .ok (.aload_n 0, 1) := by decide +kernel
theorem dX2_readValue_2 : decode cX2_readValue 2 = .ok (.bipush 45, 2) := by decide +kernel
theorem dX2_readValue_4 : decode cX2_readValue 4 = .ok (.invokevirtual 36, 3) := by decide +kernel
theorem dX2_readValue_7 : decode cX2_readValue 7 = .ok (.ifCond .eq 7, 3) := by decide +kernel
theorem dX2_readValue_10 : decode cX2_readValue 10 = .ok (.iconst (-1), 1) := by decide +kernel
theorem dX2_readValue_11 : decode cX2_readValue 11 = .ok (.goto 4, 3) := by decide +kernel
theorem dX2_readValue_14 : decode cX2_readValue 14 = .ok (.iconst 1, 1) := by decide +kernel
theorem dX2_readValue_15 : decode cX2_readValue 15 = .ok (.invokevirtual 50, 3) := by decide +kernel
theorem dX2_readValue_18 : decode cX2_readValue 18 = .ok (.ireturn, 1) := by decide +kernel
set_option maxRecDepth 20000 in
theorem ggX2_readNumber_X2_here : GoodIn wsX2_readNumber wsX2_here := goodIn_r _ [7, 1, 8, 9, 20, 21, 22, 23, 24] (by decide +kernel) (by decide +kernel)
set_option maxRecDepth 20000 in
theorem gX2_readNumber_X2_here : GoodIn wsX2_readNumber (wsV RX2 43 RX2 yX2_here wsX2_here) := goodIn_app (goodIn_of _ (by decide +kernel)) ggX2_readNumber_X2_here
set_option maxRecDepth 20000 in
theorem ggX2_readNumber_X2_isDigit : GoodIn wsX2_readNumber wsX2_isDigit := goodIn_r _ [12] (by decide +kernel) (by decide +kernel)
set_option maxRecDepth 20000 in
theorem gX2_readNumber_X2_isDigit : GoodIn wsX2_readNumber (va_wsS RX2 60 yX2_isDigit wsX2_isDigit) := goodIn_app (goodIn_of _ (by decide +kernel)) ggX2_readNumber_X2_isDigit
set_option maxRecDepth 20000 in
theorem ggX2_readNumber_X3_add : GoodIn wsX2_readNumber wsX3_add := goodIn_r _ [17, 18, 19, 25, 26] (by decide +kernel) (by decide +kernel)
set_option maxRecDepth 20000 in
theorem gX2_readNumber_X3_add : GoodIn wsX2_readNumber (wsV RX2 63 RX3 yX3_add wsX3_add) := goodIn_app (goodIn_of _ (by decide +kernel)) ggX2_readNumber_X3_add
theorem dX2_readNumber_0 : decode cX2_readNumber 0 = .ok (.aload_n 0, 1) := by decide +kernel
theorem dX2_readNumber_1 : decode cX2_readNumber 1 = .ok (.invokevirtual 43, 3) := by decide +kernel
theorem dX2_readNumber_4 : decode cX2_readNumber 4 = .ok (.invokestatic 60, 3) := by decide +kernel
theorem dX2_readNumber_7 : decode cX2_readNumber 7 = .ok (.ifCond .ne 5, 3) := by decide +kernel
theorem dX2_readNumber_10 : decode cX2_readNumber 10 = .ok (.iconst 0, 1) := by decide +kernel
theorem dX2_readNumber_11 : decode cX2_readNumber 11 = .ok (.ireturn, 1) := by decide +kernel
theorem dX2_readNumber_12 : decode cX2_readNumber 12 = .ok (.aload_n 0, 1) := by decide +kernel
theorem dX2_readNumber_13 : decode cX2_readNumber 13 = .ok (.invokevirtual 43, 3) := by decide +kernel
theorem dX2_readNumber_16 : decode cX2_readNumber 16 = .ok (.bipush 48, 2) := by decide +kernel
theorem dX2_readNumber_18 : decode cX2_readNumber 18 = .ok (.isub, 1) := by decide +kernel
theorem dX2_readNumber_19 : decode cX2_readNumber 19 = .ok (.istore_n 2, 1) := by decide +kernel
theorem dX2_readNumber_20 : decode cX2_readNumber 20 = .ok (.aload_n 0, 1) := by decide +kernel
theorem dX2_readNumber_21 : decode cX2_readNumber 21 = .ok (.dup, 1) := by decide +kernel
theorem dX2_readNumber_22 : decode cX2_readNumber 22 = .ok (.getfield 33, 3) := by decide +kernel
theorem dX2_readNumber_25 : decode cX2_readNumber 25 = .ok (.iconst 1, 1) := by decide +kernel
theorem dX2_readNumber_26 : decode cX2_readNumber 26 = .ok (.iadd, 1) := by decide +kernel
theorem dX2_readNumber_27 : decode cX2_readNumber 27 = .ok (.putfield 33, 3) := by decide +kernel
theorem dX2_readNumber_30 : decode cX2_readNumber 30 = .ok (.iload_n 2, 1) := by decide +kernel
theorem dX2_readNumber_31 : decode cX2_readNumber 31 = .ok (.ifCond .le 36, 3) := by decide +kernel
theorem dX2_readNumber_34 : decode cX2_readNumber 34 = .ok (.aload_n 0, 1) := by decide +kernel
theorem dX2_readNumber_35 : decode cX2_readNumber 35 = .ok (.invokevirtual 43, 3) := by decide +kernel
theorem dX2_readNumber_38 : decode cX2_readNumber 38 = .ok (.invokestatic 60, 3) := by decide +kernel
theorem dX2_readNumber_41 : decode cX2_readNumber 41 = .ok (.ifCond .eq 26, 3) := by decide +kernel
theorem dX2_readNumber_44 : decode cX2_readNumber 44 = .ok (.iload_n 2, 1) := by decide +kernel
theorem dX2_readNumber_45 : decode cX2_readNumber 45 = .ok (.bipush 10, 2) := by decide +kernel
theorem dX2_readNumber_47 : decode cX2_readNumber 47 = .ok (.imul, 1) := by decide +kernel
theorem dX2_readNumber_48 : decode cX2_readNumber 48 = .ok (.aload_n 0, 1) := by decide +kernel
theorem dX2_readNumber_49 : decode cX2_readNumber 49 = .ok (.invokevirtual 43, 3) := by decide +kernel
theorem dX2_readNumber_52 : decode cX2_readNumber 52 = .ok (.iadd, 1) := by decide +kernel
theorem dX2_readNumber_53 : decode cX2_readNumber 53 = .ok (.bipush 48, 2) := by decide +kernel
theorem dX2_readNumber_55 : decode cX2_readNumber 55 = .ok (.isub, 1) := by decide +kernel
theorem dX2_readNumber_56 : decode cX2_readNumber 56 = .ok (.istore_n 2, 1) := by decide +kernel
theorem dX2_readNumber_57 : decode cX2_readNumber 57 = .ok (.aload_n 0, 1) := by decide +kernel
theorem dX2_readNumber_58 : decode cX2_readNumber 58 = .ok (.dup, 1) := by decide +kernel
theorem dX2_readNumber_59 : decode cX2_readNumber 59 = .ok (.getfield 33, 3) := by decide +kernel
theorem dX2_readNumber_62 : decode cX2_readNumber 62 = .ok (.iconst 1, 1) := by decide +kernel
theorem dX2_readNumber_63 : decode cX2_readNumber 63 = .ok (.iadd, 1) := by decide +kernel
theorem dX2_readNumber_64 : decode cX2_readNumber 64 = .ok (.putfield 33, 3) := by decide +kernel
theorem dX2_readNumber_67 : decode cX2_readNumber 67 = .ok (.aload_n 0, 1) := by decide +kernel
theorem dX2_readNumber_68 : decode cX2_readNumber 68 = .ok (.getfield 18, 3) := by decide +kernel
theorem dX2_readNumber_71 : decode cX2_readNumber 71 = .ok (.iload_n 2, 1) := by decide +kernel
theorem dX2_readNumber_72 : decode cX2_readNumber 72 = .ok (.iload_n 1, 1) := by decide +kernel
theorem dX2_readNumber_73 : decode cX2_readNumber 73 = .ok (.imul, 1) := by decide +kernel
theorem dX2_readNumber_74 : decode cX2_readNumber 74 = .ok (.invokevirtual 63, 3) := by decide +kernel
theorem dX2_readNumber_77 : decode cX2_readNumber 77 = .ok (.ireturn, 1) := by decide +kernel
set_option maxRecDepth 20000 in
theorem ggX2_take_X2_here : GoodIn wsX2_take wsX2_here := goodIn_r _ [6, 1, 7, 8, 9, 10, 11, 12, 13] (by decide +kernel) (by decide +kernel)
set_option maxRecDepth 20000 in
theorem gX2_take_X2_here : GoodIn wsX2_take (wsV RX2 43 RX2 yX2_here wsX2_here) := goodIn_app (goodIn_of _ (by decide +kernel)) ggX2_take_X2_here
theorem dX2_take_0 : decode cX2_take 0 = .ok (.aload_n 0, 1) := by decide +kernel
theorem dX2_take_1 : decode cX2_take 1 = .ok (.invokevirtual 43, 3) := by decide +kernel
theorem dX2_take_4 : decode cX2_take 4 = .ok (.iload_n 1, 1) := by decide +kernel
theorem dX2_take_5 : decode cX2_take 5 = .ok (.if_icmp .eq 5, 3) := by decide +kernel
theorem dX2_take_8 : decode cX2_take 8 = .ok (.iconst 0, 1) := by decide +kernel
theorem dX2_take_9 : decode cX2_take 9 = .ok (.ireturn, 1) := by decide +kernel
theorem dX2_take_10 : decode cX2_take 10 = .ok (.aload_n 0, 1) := by decide +kernel
theorem dX2_take_11 : decode cX2_take 11 = .ok (.dup, 1) := by decide +kernel
theorem dX2_take_12 : decode cX2_take 12 = .ok (.getfield 33, 3) := by decide +kernel
theorem dX2_take_15 : decode cX2_take 15 = .ok (.iconst 1, 1) := by decide +kernel
theorem dX2_take_16 : decode cX2_take 16 = .ok (.iadd, 1) := by decide +kernel
theorem dX2_take_17 : decode cX2_take 17 = .ok (.putfield 33, 3) := by decide +kernel
theorem dX2_take_20 : decode cX2_take 20 = .ok (.iconst 1, 1) := by decide +kernel
theorem dX2_take_21 : decode cX2_take 21 = .ok (.ireturn, 1) := by decide +kernel
theorem dX2_here_0 : decode cX2_here 0 = .ok (.aload_n 0, 1) := by decide +kernel
theorem dX2_here_1 : decode cX2_here 1 = .ok (.getfield 33, 3) := by decide +kernel
theorem dX2_here_4 : decode cX2_here 4 = .ok (.ifCond .lt 26, 3) := by decide +kernel
theorem dX2_here_7 : decode cX2_here 7 = .ok (.aload_n 0, 1) := by decide +kernel
theorem dX2_here_8 : decode cX2_here 8 = .ok (.getfield 33, 3) := by decide +kernel
theorem dX2_here_11 : decode cX2_here 11 = .ok (.aload_n 0, 1) := by decide +kernel
theorem dX2_here_12 : decode cX2_here 12 = .ok (.getfield 22, 3) := by decide +kernel
theorem dX2_here_15 : decode cX2_here 15 = .ok (.if_icmp .ge 15, 3) := by decide +kernel
theorem dX2_here_18 : decode cX2_here 18 = .ok (.aload_n 0, 1) := by decide +kernel
theorem dX2_here_19 : decode cX2_here 19 = .ok (.getfield 9, 3) := by decide +kernel
theorem dX2_here_22 : decode cX2_here 22 = .ok (.aload_n 0, 1) := by decide +kernel
theorem dX2_here_23 : decode cX2_here 23 = .ok (.getfield 33, 3) := by decide +kernel
theorem dX2_here_26 : decode cX2_here 26 = .ok (.caload, 1) := by decide +kernel
theorem dX2_here_27 : decode cX2_here 27 = .ok (.goto 4, 3) := by decide +kernel
theorem dX2_here_30 : decode cX2_here 30 = .ok (.iconst 0, 1) := by decide +kernel
theorem dX2_here_31 : decode cX2_here 31 = .ok (.ireturn, 1) := by decide +kernel
theorem dX2_isDigit_0 : decode cX2_isDigit 0 = .ok (.iload_n 0, 1) := by decide +kernel
theorem dX2_isDigit_1 : decode cX2_isDigit 1 = .ok (.bipush 48, 2) := by decide +kernel
theorem dX2_isDigit_3 : decode cX2_isDigit 3 = .ok (.if_icmp .lt 13, 3) := by decide +kernel
theorem dX2_isDigit_6 : decode cX2_isDigit 6 = .ok (.iload_n 0, 1) := by decide +kernel
theorem dX2_isDigit_7 : decode cX2_isDigit 7 = .ok (.bipush 57, 2) := by decide +kernel
theorem dX2_isDigit_9 : decode cX2_isDigit 9 = .ok (.if_icmp .gt 7, 3) := by decide +kernel
theorem dX2_isDigit_12 : decode cX2_isDigit 12 = .ok (.iconst 1, 1) := by decide +kernel
theorem dX2_isDigit_13 : decode cX2_isDigit 13 = .ok (.goto 4, 3) := by decide +kernel
theorem dX2_isDigit_16 : decode cX2_isDigit 16 = .ok (.iconst 0, 1) := by decide +kernel
theorem dX2_isDigit_17 : decode cX2_isDigit 17 = .ok (.ireturn, 1) := by decide +kernel
theorem dX3_init_0 : decode cX3_init 0 = .ok (.aload_n 0, 1) := by decide +kernel
theorem dX3_init_1 : decode cX3_init 1 = .ok (.invokespecial 3, 3) := by decide +kernel
theorem dX3_init_4 : decode cX3_init 4 = .ok (.aload_n 0, 1) := by decide +kernel
theorem dX3_init_5 : decode cX3_init 5 = .ok (.bipush 40, 2) := by decide +kernel
theorem dX3_init_7 : decode cX3_init 7 = .ok (.newarray .int, 2) := by decide +kernel
theorem dX3_init_9 : decode cX3_init 9 = .ok (.putfield 9, 3) := by decide +kernel
theorem dX3_init_12 : decode cX3_init 12 = .ok (.return_, 1) := by decide +kernel
theorem dX3_clear_0 : decode cX3_clear 0 = .ok (.aload_n 0, 1) := by decide +kernel
theorem dX3_clear_1 : decode cX3_clear 1 = .ok (.iconst 0, 1) := by decide +kernel
theorem dX3_clear_2 : decode cX3_clear 2 = .ok (.putfield 15, 3) := by decide +kernel
theorem dX3_clear_5 : decode cX3_clear 5 = .ok (.return_, 1) := by decide +kernel
theorem dX3_add_0 : decode cX3_add 0 = .ok (.aload_n 0, 1) := by decide +kernel
theorem dX3_add_1 : decode cX3_add 1 = .ok (.getfield 15, 3) := by decide +kernel
theorem dX3_add_4 : decode cX3_add 4 = .ok (.bipush 40, 2) := by decide +kernel
theorem dX3_add_6 : decode cX3_add 6 = .ok (.if_icmp .lt 5, 3) := by decide +kernel
theorem dX3_add_9 : decode cX3_add 9 = .ok (.iconst 0, 1) := by decide +kernel
theorem dX3_add_10 : decode cX3_add 10 = .ok (.ireturn, 1) := by decide +kernel
theorem dX3_add_11 : decode cX3_add 11 = .ok (.aload_n 0, 1) := by decide +kernel
theorem dX3_add_12 : decode cX3_add 12 = .ok (.getfield 9, 3) := by decide +kernel
theorem dX3_add_15 : decode cX3_add 15 = .ok (.aload_n 0, 1) := by decide +kernel
theorem dX3_add_16 : decode cX3_add 16 = .ok (.getfield 15, 3) := by decide +kernel
theorem dX3_add_19 : decode cX3_add 19 = .ok (.iload_n 1, 1) := by decide +kernel
theorem dX3_add_20 : decode cX3_add 20 = .ok (.iastore, 1) := by decide +kernel
theorem dX3_add_21 : decode cX3_add 21 = .ok (.aload_n 0, 1) := by decide +kernel
theorem dX3_add_22 : decode cX3_add 22 = .ok (.dup, 1) := by decide +kernel
theorem dX3_add_23 : decode cX3_add 23 = .ok (.getfield 15, 3) := by decide +kernel
theorem dX3_add_26 : decode cX3_add 26 = .ok (.iconst 1, 1) := by decide +kernel
theorem dX3_add_27 : decode cX3_add 27 = .ok (.iadd, 1) := by decide +kernel
theorem dX3_add_28 : decode cX3_add 28 = .ok (.putfield 15, 3) := by decide +kernel
theorem dX3_add_31 : decode cX3_add 31 = .ok (.iconst 1, 1) := by decide +kernel
theorem dX3_add_32 : decode cX3_add 32 = .ok (.ireturn, 1) := by decide +kernel
theorem dX3_at_0 : decode cX3_at 0 = .ok (.iload_n 1, 1) := by decide +kernel
theorem dX3_at_1 : decode cX3_at 1 = .ok (.ifCond .lt 20, 3) := by decide +kernel
theorem dX3_at_4 : decode cX3_at 4 = .ok (.iload_n 1, 1) := by decide +kernel
theorem dX3_at_5 : decode cX3_at 5 = .ok (.aload_n 0, 1) := by decide +kernel
theorem dX3_at_6 : decode cX3_at 6 = .ok (.getfield 15, 3) := by decide +kernel
theorem dX3_at_9 : decode cX3_at 9 = .ok (.if_icmp .ge 12, 3) := by decide +kernel
theorem dX3_at_12 : decode cX3_at 12 = .ok (.aload_n 0, 1) := by decide +kernel
theorem dX3_at_13 : decode cX3_at 13 = .ok (.getfield 9, 3) := by decide +kernel
theorem dX3_at_16 : decode cX3_at 16 = .ok (.iload_n 1, 1) := by decide +kernel
theorem dX3_at_17 : decode cX3_at 17 = .ok (.iaload, 1) := by decide +kernel
theorem dX3_at_18 : decode cX3_at 18 = .ok (.goto 5, 3) := by decide +kernel
theorem dX3_at_21 : decode cX3_at 21 = .ok (.bipush (-6), 2) := by decide +kernel
theorem dX3_at_23 : decode cX3_at 23 = .ok (.ireturn, 1) := by decide +kernel
theorem dX3_turnRound_0 : decode cX3_turnRound 0 = .ok (.iconst 0, 1) := by decide +kernel
theorem dX3_turnRound_1 : decode cX3_turnRound 1 = .ok (.istore_n 1, 1) := by decide +kernel
theorem dX3_turnRound_2 : decode cX3_turnRound 2 = .ok (.iload_n 1, 1) := by decide +kernel
theorem dX3_turnRound_3 : decode cX3_turnRound 3 = .ok (.aload_n 0, 1) := by decide +kernel
theorem dX3_turnRound_4 : decode cX3_turnRound 4 = .ok (.getfield 15, 3) := by decide +kernel
theorem dX3_turnRound_7 : decode cX3_turnRound 7 = .ok (.iconst 2, 1) := by decide +kernel
theorem dX3_turnRound_8 : decode cX3_turnRound 8 = .ok (.idiv, 1) := by decide +kernel
theorem dX3_turnRound_9 : decode cX3_turnRound 9 = .ok (.if_icmp .ge 49, 3) := by decide +kernel
theorem dX3_turnRound_12 : decode cX3_turnRound 12 = .ok (.aload_n 0, 1) := by decide +kernel
theorem dX3_turnRound_13 : decode cX3_turnRound 13 = .ok (.getfield 9, 3) := by decide +kernel
theorem dX3_turnRound_16 : decode cX3_turnRound 16 = .ok (.iload_n 1, 1) := by decide +kernel
theorem dX3_turnRound_17 : decode cX3_turnRound 17 = .ok (.iaload, 1) := by decide +kernel
theorem dX3_turnRound_18 : decode cX3_turnRound 18 = .ok (.istore_n 2, 1) := by decide +kernel
theorem dX3_turnRound_19 : decode cX3_turnRound 19 = .ok (.aload_n 0, 1) := by decide +kernel
theorem dX3_turnRound_20 : decode cX3_turnRound 20 = .ok (.getfield 9, 3) := by decide +kernel
theorem dX3_turnRound_23 : decode cX3_turnRound 23 = .ok (.iload_n 1, 1) := by decide +kernel
theorem dX3_turnRound_24 : decode cX3_turnRound 24 = .ok (.aload_n 0, 1) := by decide +kernel
theorem dX3_turnRound_25 : decode cX3_turnRound 25 = .ok (.getfield 9, 3) := by decide +kernel
theorem dX3_turnRound_28 : decode cX3_turnRound 28 = .ok (.aload_n 0, 1) := by decide +kernel
theorem dX3_turnRound_29 : decode cX3_turnRound 29 = .ok (.getfield 15, 3) := by decide +kernel
theorem dX3_turnRound_32 : decode cX3_turnRound 32 = .ok (.iconst 1, 1) := by decide +kernel
theorem dX3_turnRound_33 : decode cX3_turnRound 33 = .ok (.isub, 1) := by decide +kernel
theorem dX3_turnRound_34 : decode cX3_turnRound 34 = .ok (.iload_n 1, 1) := by decide +kernel
theorem dX3_turnRound_35 : decode cX3_turnRound 35 = .ok (.isub, 1) := by decide +kernel
theorem dX3_turnRound_36 : decode cX3_turnRound 36 = .ok (.iaload, 1) := by decide +kernel
theorem dX3_turnRound_37 : decode cX3_turnRound 37 = .ok (.iastore, 1) := by decide +kernel
theorem dX3_turnRound_38 : decode cX3_turnRound 38 = .ok (.aload_n 0, 1) := by decide +kernel
theorem dX3_turnRound_39 : decode cX3_turnRound 39 = .ok (.getfield 9, 3) := by decide +kernel
theorem dX3_turnRound_42 : decode cX3_turnRound 42 = .ok (.aload_n 0, 1) := by decide +kernel
theorem dX3_turnRound_43 : decode cX3_turnRound 43 = .ok (.getfield 15, 3) := by decide +kernel
theorem dX3_turnRound_46 : decode cX3_turnRound 46 = .ok (.iconst 1, 1) := by decide +kernel
theorem dX3_turnRound_47 : decode cX3_turnRound 47 = .ok (.isub, 1) := by decide +kernel
theorem dX3_turnRound_48 : decode cX3_turnRound 48 = .ok (.iload_n 1, 1) := by decide +kernel
theorem dX3_turnRound_49 : decode cX3_turnRound 49 = .ok (.isub, 1) := by decide +kernel
theorem dX3_turnRound_50 : decode cX3_turnRound 50 = .ok (.iload_n 2, 1) := by decide +kernel
theorem dX3_turnRound_51 : decode cX3_turnRound 51 = .ok (.iastore, 1) := by decide +kernel
theorem dX3_turnRound_52 : decode cX3_turnRound 52 = .ok (.iinc 1 1, 3) := by decide +kernel
theorem dX3_turnRound_55 : decode cX3_turnRound 55 = .ok (.goto (-53), 3) := by decide +kernel
theorem dX3_turnRound_58 : decode cX3_turnRound 58 = .ok (.return_, 1) := by decide +kernel
set_option maxRecDepth 20000 in
theorem ggX4_init_X0_init : GoodIn wsX4_init wsX0_init := goodIn_r _ [16, 17, 2, 3] (by decide +kernel) (by decide +kernel)
set_option maxRecDepth 20000 in
theorem gX4_init_X0_init_n33 : GoodIn wsX4_init (wsX0_init) := ggX4_init_X0_init
theorem dX4_init_0 : decode cX4_init 0 = .ok (.aload_n 0, 1) := by decide +kernel
theorem dX4_init_1 : decode cX4_init 1 = .ok (.invokespecial 3, 3) := by decide +kernel
theorem dX4_init_4 : decode cX4_init 4 = .ok (.aload_n 0, 1) := by decide +kernel
theorem dX4_init_5 : decode cX4_init 5 = .ok (.iconst 4, 1) := by decide +kernel
theorem dX4_init_6 : decode cX4_init 6 = .ok (.newarray .int, 2) := by decide +kernel
theorem dX4_init_8 : decode cX4_init 8 = .ok (.putfield 9, 3) := by decide +kernel
theorem dX4_init_11 : decode cX4_init 11 = .ok (.aload_n 0, 1) := by decide +kernel
theorem dX4_init_12 : decode cX4_init 12 = .ok (.bipush 16, 2) := by decide +kernel
theorem dX4_init_14 : decode cX4_init 14 = .ok (.anewarray 15, 3) := by decide +kernel
theorem dX4_init_17 : decode cX4_init 17 = .ok (.putfield 17, 3) := by decide +kernel
theorem dX4_init_20 : decode cX4_init 20 = .ok (.aload_n 0, 1) := by decide +kernel
theorem dX4_init_21 : decode cX4_init 21 = .ok (.iconst 4, 1) := by decide +kernel
theorem dX4_init_22 : decode cX4_init 22 = .ok (.newarray .int, 2) := by decide +kernel
theorem dX4_init_24 : decode cX4_init 24 = .ok (.putfield 21, 3) := by decide +kernel
theorem dX4_init_27 : decode cX4_init 27 = .ok (.getstatic 24, 3) := by decide +kernel
theorem dX4_init_30 : decode cX4_init 30 = .ok (.iconst 0, 1) := by decide +kernel
theorem dX4_init_31 : decode cX4_init 31 = .ok (.aload_n 0, 1) := by decide +kernel
theorem dX4_init_32 : decode cX4_init 32 = .ok (.getfield 9, 3) := by decide +kernel
theorem dX4_init_35 : decode cX4_init 35 = .ok (.iconst 0, 1) := by decide +kernel
theorem dX4_init_36 : decode cX4_init 36 = .ok (.iconst 4, 1) := by decide +kernel
theorem dX4_init_37 : decode cX4_init 37 = .ok (.invokestatic 27, 3) := by decide +kernel
theorem dX4_init_40 : decode cX4_init 40 = .ok (.iconst 0, 1) := by decide +kernel
theorem dX4_init_41 : decode cX4_init 41 = .ok (.istore_n 1, 1) := by decide +kernel
theorem dX4_init_42 : decode cX4_init 42 = .ok (.iload_n 1, 1) := by decide +kernel
theorem dX4_init_43 : decode cX4_init 43 = .ok (.bipush 16, 2) := by decide +kernel
theorem dX4_init_45 : decode cX4_init 45 = .ok (.if_icmp .ge 22, 3) := by decide +kernel
theorem dX4_init_48 : decode cX4_init 48 = .ok (.aload_n 0, 1) := by decide +kernel
theorem dX4_init_49 : decode cX4_init 49 = .ok (.getfield 17, 3) := by decide +kernel
theorem dX4_init_52 : decode cX4_init 52 = .ok (.iload_n 1, 1) := by decide +kernel
theorem dX4_init_53 : decode cX4_init 53 = .ok (.new 15, 3) := by decide +kernel
theorem dX4_init_56 : decode cX4_init 56 = .ok (.dup, 1) := by decide +kernel
theorem dX4_init_57 : decode cX4_init 57 = .ok (.invokespecial 33, 3) := by decide +kernel
theorem dX4_init_60 : decode cX4_init 60 = .ok (.aastore, 1) := by decide +kernel
theorem dX4_init_61 : decode cX4_init 61 = .ok (.iinc 1 1, 3) := by decide +kernel
theorem dX4_init_64 : decode cX4_init 64 = .ok (.goto (-22), 3) := by decide +kernel
theorem dX4_init_67 : decode cX4_init 67 = .ok (.return_, 1) := by decide +kernel
set_option maxRecDepth 20000 in
theorem ggX4_copyFrom_X0_copyFrom : GoodIn wsX4_copyFrom wsX0_copyFrom := goodIn_r _ [16, 17, 18, 19, 20, 21, 22, 23, 24, 32, 33, 34, 35, 36, 37, 38, 39] (by decide +kernel) (by decide +kernel)
set_option maxRecDepth 20000 in
theorem gX4_copyFrom_X0_copyFrom : GoodIn wsX4_copyFrom (wsV RX4 38 RX0 yX0_copyFrom wsX0_copyFrom) := goodIn_app (goodIn_of _ (by decide +kernel)) ggX4_copyFrom_X0_copyFrom
theorem dX4_copyFrom_0 : decode cX4_copyFrom 0 = .ok (.aload_n 1, 1) := by decide +kernel
theorem dX4_copyFrom_1 : decode cX4_copyFrom 1 = .ok (.getfield 9, 3) := by decide +kernel
theorem dX4_copyFrom_4 : decode cX4_copyFrom 4 = .ok (.iconst 0, 1) := by decide +kernel
theorem dX4_copyFrom_5 : decode cX4_copyFrom 5 = .ok (.aload_n 0, 1) := by decide +kernel
theorem dX4_copyFrom_6 : decode cX4_copyFrom 6 = .ok (.getfield 9, 3) := by decide +kernel
theorem dX4_copyFrom_9 : decode cX4_copyFrom 9 = .ok (.iconst 0, 1) := by decide +kernel
theorem dX4_copyFrom_10 : decode cX4_copyFrom 10 = .ok (.iconst 4, 1) := by decide +kernel
theorem dX4_copyFrom_11 : decode cX4_copyFrom 11 = .ok (.invokestatic 27, 3) := by decide +kernel
theorem dX4_copyFrom_14 : decode cX4_copyFrom 14 = .ok (.aload_n 1, 1) := by decide +kernel
theorem dX4_copyFrom_15 : decode cX4_copyFrom 15 = .ok (.getfield 21, 3) := by decide +kernel
theorem dX4_copyFrom_18 : decode cX4_copyFrom 18 = .ok (.iconst 0, 1) := by decide +kernel
theorem dX4_copyFrom_19 : decode cX4_copyFrom 19 = .ok (.aload_n 0, 1) := by decide +kernel
theorem dX4_copyFrom_20 : decode cX4_copyFrom 20 = .ok (.getfield 21, 3) := by decide +kernel
theorem dX4_copyFrom_23 : decode cX4_copyFrom 23 = .ok (.iconst 0, 1) := by decide +kernel
theorem dX4_copyFrom_24 : decode cX4_copyFrom 24 = .ok (.iconst 4, 1) := by decide +kernel
theorem dX4_copyFrom_25 : decode cX4_copyFrom 25 = .ok (.invokestatic 27, 3) := by decide +kernel
theorem dX4_copyFrom_28 : decode cX4_copyFrom 28 = .ok (.iconst 0, 1) := by decide +kernel
theorem dX4_copyFrom_29 : decode cX4_copyFrom 29 = .ok (.istore_n 2, 1) := by decide +kernel
theorem dX4_copyFrom_30 : decode cX4_copyFrom 30 = .ok (.iload_n 2, 1) := by decide +kernel
theorem dX4_copyFrom_31 : decode cX4_copyFrom 31 = .ok (.aload_n 1, 1) := by decide +kernel
theorem dX4_copyFrom_32 : decode cX4_copyFrom 32 = .ok (.getfield 34, 3) := by decide +kernel
theorem dX4_copyFrom_35 : decode cX4_copyFrom 35 = .ok (.if_icmp .ge 24, 3) := by decide +kernel
theorem dX4_copyFrom_38 : decode cX4_copyFrom 38 = .ok (.aload_n 0, 1) := by decide +kernel
theorem dX4_copyFrom_39 : decode cX4_copyFrom 39 = .ok (.getfield 17, 3) := by decide +kernel
theorem dX4_copyFrom_42 : decode cX4_copyFrom 42 = .ok (.iload_n 2, 1) := by decide +kernel
theorem dX4_copyFrom_43 : decode cX4_copyFrom 43 = .ok (.aaload, 1) := by decide +kernel
theorem dX4_copyFrom_44 : decode cX4_copyFrom 44 = .ok (.aload_n 1, 1) := by decide +kernel
theorem dX4_copyFrom_45 : decode cX4_copyFrom 45 = .ok (.getfield 17, 3) := by decide +kernel
theorem dX4_copyFrom_48 : decode cX4_copyFrom 48 = .ok (.iload_n 2, 1) := by decide +kernel
theorem dX4_copyFrom_49 : decode cX4_copyFrom 49 = .ok (.aaload, 1) := by decide +kernel
theorem dX4_copyFrom_50 : decode cX4_copyFrom 50 = .ok (.invokevirtual 38, 3) := by decide +kernel
theorem dX4_copyFrom_53 : decode cX4_copyFrom 53 = .ok (.iinc 2 1, 3) := by decide +kernel
theorem dX4_copyFrom_56 : decode cX4_copyFrom 56 = .ok (.goto (-26), 3) := by decide +kernel
theorem dX4_copyFrom_59 : decode cX4_copyFrom 59 = .ok (.aload_n 0, 1) := by decide +kernel
theorem dX4_copyFrom_60 : decode cX4_copyFrom 60 = .ok (.aload_n 1, 1) := by decide +kernel
theorem dX4_copyFrom_61 : decode cX4_copyFrom 61 = .ok (.getfield 34, 3) := by decide +kernel
theorem dX4_copyFrom_64 : decode cX4_copyFrom 64 = .ok (.putfield 34, 3) := by decide +kernel
theorem dX4_copyFrom_67 : decode cX4_copyFrom 67 = .ok (.aload_n 0, 1) := by decide +kernel
theorem dX4_copyFrom_68 : decode cX4_copyFrom 68 = .ok (.aload_n 1, 1) := by decide +kernel
theorem dX4_copyFrom_69 : decode cX4_copyFrom 69 = .ok (.getfield 42, 3) := by decide +kernel
theorem dX4_copyFrom_72 : decode cX4_copyFrom 72 = .ok (.putfield 42, 3) := by decide +kernel
theorem dX4_copyFrom_75 : decode cX4_copyFrom 75 = .ok (.aload_n 0, 1) := by decide +kernel
theorem dX4_copyFrom_76 : decode cX4_copyFrom 76 = .ok (.aload_n 1, 1) := by decide +kernel
theorem dX4_copyFrom_77 : decode cX4_copyFrom 77 = .ok (.getfield 45, 3) := by decide +kernel
theorem dX4_copyFrom_80 : decode cX4_copyFrom 80 = .ok (.putfield 45, 3) := by decide +kernel
theorem dX4_copyFrom_83 : decode cX4_copyFrom 83 = .ok (.aload_n 0, 1) := by decide +kernel
theorem dX4_copyFrom_84 : decode cX4_copyFrom 84 = .ok (.aload_n 1, 1) := by decide +kernel
theorem dX4_copyFrom_85 : decode cX4_copyFrom 85 = .ok (.getfield 48, 3) := by decide +kernel
theorem dX4_copyFrom_88 : decode cX4_copyFrom 88 = .ok (.putfield 48, 3) := by decide +kernel
theorem dX4_copyFrom_91 : decode cX4_copyFrom 91 = .ok (.return_, 1) := by decide +kernel
theorem dX4_hasClock_0 : decode cX4_hasClock 0 = .ok (.iload_n 1, 1) := by decide +kernel
theorem dX4_hasClock_1 : decode cX4_hasClock 1 = .ok (.ifCond .lt 15, 3) := by decide +kernel
theorem dX4_hasClock_4 : decode cX4_hasClock 4 = .ok (.iload_n 1, 1) := by decide +kernel
theorem dX4_hasClock_5 : decode cX4_hasClock 5 = .ok (.aload_n 0, 1) := by decide +kernel
theorem dX4_hasClock_6 : decode cX4_hasClock 6 = .ok (.getfield 34, 3) := by decide +kernel
theorem dX4_hasClock_9 : decode cX4_hasClock 9 = .ok (.if_icmp .ge 7, 3) := by decide +kernel
theorem dX4_hasClock_12 : decode cX4_hasClock 12 = .ok (.iconst 1, 1) := by decide +kernel
theorem dX4_hasClock_13 : decode cX4_hasClock 13 = .ok (.goto 4, 3) := by decide +kernel
theorem dX4_hasClock_16 : decode cX4_hasClock 16 = .ok (.iconst 0, 1) := by decide +kernel
theorem dX4_hasClock_17 : decode cX4_hasClock 17 = .ok (.ireturn, 1) := by decide +kernel
theorem dX4_hasLadder_0 : decode cX4_hasLadder 0 = .ok (.iload_n 1, 1) := by decide +kernel
theorem dX4_hasLadder_1 : decode cX4_hasLadder 1 = .ok (.ifCond .lt 15, 3) := by decide +kernel
theorem dX4_hasLadder_4 : decode cX4_hasLadder 4 = .ok (.iload_n 1, 1) := by decide +kernel
theorem dX4_hasLadder_5 : decode cX4_hasLadder 5 = .ok (.aload_n 0, 1) := by decide +kernel
theorem dX4_hasLadder_6 : decode cX4_hasLadder 6 = .ok (.getfield 42, 3) := by decide +kernel
theorem dX4_hasLadder_9 : decode cX4_hasLadder 9 = .ok (.if_icmp .ge 7, 3) := by decide +kernel
theorem dX4_hasLadder_12 : decode cX4_hasLadder 12 = .ok (.iconst 1, 1) := by decide +kernel
theorem dX4_hasLadder_13 : decode cX4_hasLadder 13 = .ok (.goto 4, 3) := by decide +kernel
theorem dX4_hasLadder_16 : decode cX4_hasLadder 16 = .ok (.iconst 0, 1) := by decide +kernel
theorem dX4_hasLadder_17 : decode cX4_hasLadder 17 = .ok (.ireturn, 1) := by decide +kernel
set_option maxRecDepth 20000 in
theorem ggX4_replaceSetting_X5_isWithin : GoodIn wsX4_replaceSetting wsX5_isWithin := goodIn_r _ [4] (by decide +kernel) (by decide +kernel)
set_option maxRecDepth 20000 in
theorem gX4_replaceSetting_X5_isWithin_n54 : GoodIn wsX4_replaceSetting (wsX5_isWithin) := ggX4_replaceSetting_X5_isWithin
theorem dX4_replaceSetting_0 : decode cX4_replaceSetting 0 = .ok (.iload_n 1, 1) := by decide +kernel
theorem dX4_replaceSetting_1 : decode cX4_replaceSetting 1 = .ok (.ifCond .lt 21, 3) := by decide +kernel
theorem dX4_replaceSetting_4 : decode cX4_replaceSetting 4 = .ok (.iload_n 1, 1) := by decide +kernel
theorem dX4_replaceSetting_5 : decode cX4_replaceSetting 5 = .ok (.iconst 4, 1) := by decide +kernel
theorem dX4_replaceSetting_6 : decode cX4_replaceSetting 6 = .ok (.if_icmp .ge 16, 3) := by decide +kernel
theorem dX4_replaceSetting_9 : decode cX4_replaceSetting 9 = .ok (.iload_n 2, 1) := by decide +kernel
theorem dX4_replaceSetting_10 : decode cX4_replaceSetting 10 = .ok (.iconst 1, 1) := by decide +kernel
theorem dX4_replaceSetting_11 : decode cX4_replaceSetting 11 = .ok (.getstatic 51, 3) := by decide +kernel
theorem dX4_replaceSetting_14 : decode cX4_replaceSetting 14 = .ok (.iload_n 1, 1) := by decide +kernel
theorem dX4_replaceSetting_15 : decode cX4_replaceSetting 15 = .ok (.iaload, 1) := by decide +kernel
theorem dX4_replaceSetting_16 : decode cX4_replaceSetting 16 = .ok (.invokestatic 54, 3) := by decide +kernel
theorem dX4_replaceSetting_19 : decode cX4_replaceSetting 19 = .ok (.ifCond .ne 6, 3) := by decide +kernel
theorem dX4_replaceSetting_22 : decode cX4_replaceSetting 22 = .ok (.bipush (-2), 2) := by decide +kernel
theorem dX4_replaceSetting_24 : decode cX4_replaceSetting 24 = .ok (.ireturn, 1) := by decide +kernel
theorem dX4_replaceSetting_25 : decode cX4_replaceSetting 25 = .ok (.aload_n 0, 1) := by decide +kernel
theorem dX4_replaceSetting_26 : decode cX4_replaceSetting 26 = .ok (.getfield 9, 3) := by decide +kernel
theorem dX4_replaceSetting_29 : decode cX4_replaceSetting 29 = .ok (.iload_n 1, 1) := by decide +kernel
theorem dX4_replaceSetting_30 : decode cX4_replaceSetting 30 = .ok (.iaload, 1) := by decide +kernel
theorem dX4_replaceSetting_31 : decode cX4_replaceSetting 31 = .ok (.istore_n 3, 1) := by decide +kernel
theorem dX4_replaceSetting_32 : decode cX4_replaceSetting 32 = .ok (.aload_n 0, 1) := by decide +kernel
theorem dX4_replaceSetting_33 : decode cX4_replaceSetting 33 = .ok (.getfield 9, 3) := by decide +kernel
theorem dX4_replaceSetting_36 : decode cX4_replaceSetting 36 = .ok (.iload_n 1, 1) := by decide +kernel
theorem dX4_replaceSetting_37 : decode cX4_replaceSetting 37 = .ok (.iload_n 2, 1) := by decide +kernel
theorem dX4_replaceSetting_38 : decode cX4_replaceSetting 38 = .ok (.iastore, 1) := by decide +kernel
theorem dX4_replaceSetting_39 : decode cX4_replaceSetting 39 = .ok (.iload_n 3, 1) := by decide +kernel
theorem dX4_replaceSetting_40 : decode cX4_replaceSetting 40 = .ok (.ireturn, 1) := by decide +kernel
set_option maxRecDepth 20000 in
theorem ggX4_addClock_X5_isWithin : GoodIn wsX4_addClock wsX5_isWithin := goodIn_r _ [5] (by decide +kernel) (by decide +kernel)
set_option maxRecDepth 20000 in
theorem gX4_addClock_X5_isWithin_n54 : GoodIn wsX4_addClock (wsX5_isWithin) := ggX4_addClock_X5_isWithin
set_option maxRecDepth 20000 in
theorem ggX4_addClock_X0_begin : GoodIn wsX4_addClock wsX0_begin := goodIn_r _ [10, 11, 12, 13, 14, 15, 16, 17, 18, 26, 27, 28, 29, 30, 31, 32, 33] (by decide +kernel) (by decide +kernel)
set_option maxRecDepth 20000 in
theorem gX4_addClock_X0_begin : GoodIn wsX4_addClock (wsV RX4 58 RX0 yX0_begin wsX0_begin) := goodIn_app (goodIn_of _ (by decide +kernel)) ggX4_addClock_X0_begin
theorem dX4_addClock_0 : decode cX4_addClock 0 = .ok (.iload_n 1, 1) := by decide +kernel
theorem dX4_addClock_1 : decode cX4_addClock 1 = .ok (.iconst 0, 1) := by decide +kernel
theorem dX4_addClock_2 : decode cX4_addClock 2 = .ok (.bipush 99, 2) := by decide +kernel
theorem dX4_addClock_4 : decode cX4_addClock 4 = .ok (.invokestatic 54, 3) := by decide +kernel
theorem dX4_addClock_7 : decode cX4_addClock 7 = .ok (.ifCond .eq 24, 3) := by decide +kernel
theorem dX4_addClock_10 : decode cX4_addClock 10 = .ok (.iload_n 2, 1) := by decide +kernel
theorem dX4_addClock_11 : decode cX4_addClock 11 = .ok (.iconst 0, 1) := by decide +kernel
theorem dX4_addClock_12 : decode cX4_addClock 12 = .ok (.bipush 30, 2) := by decide +kernel
theorem dX4_addClock_14 : decode cX4_addClock 14 = .ok (.invokestatic 54, 3) := by decide +kernel
theorem dX4_addClock_17 : decode cX4_addClock 17 = .ok (.ifCond .eq 14, 3) := by decide +kernel
theorem dX4_addClock_20 : decode cX4_addClock 20 = .ok (.iload_n 3, 1) := by decide +kernel
theorem dX4_addClock_21 : decode cX4_addClock 21 = .ok (.bipush (-99), 2) := by decide +kernel
theorem dX4_addClock_23 : decode cX4_addClock 23 = .ok (.bipush 99, 2) := by decide +kernel
theorem dX4_addClock_25 : decode cX4_addClock 25 = .ok (.invokestatic 54, 3) := by decide +kernel
theorem dX4_addClock_28 : decode cX4_addClock 28 = .ok (.ifCond .ne 6, 3) := by decide +kernel
theorem dX4_addClock_31 : decode cX4_addClock 31 = .ok (.bipush (-2), 2) := by decide +kernel
theorem dX4_addClock_33 : decode cX4_addClock 33 = .ok (.ireturn, 1) := by decide +kernel
theorem dX4_addClock_34 : decode cX4_addClock 34 = .ok (.aload_n 0, 1) := by decide +kernel
theorem dX4_addClock_35 : decode cX4_addClock 35 = .ok (.getfield 34, 3) := by decide +kernel
theorem dX4_addClock_38 : decode cX4_addClock 38 = .ok (.bipush 16, 2) := by decide +kernel
theorem dX4_addClock_40 : decode cX4_addClock 40 = .ok (.if_icmp .lt 6, 3) := by decide +kernel
theorem dX4_addClock_43 : decode cX4_addClock 43 = .ok (.bipush (-4), 2) := by decide +kernel
theorem dX4_addClock_45 : decode cX4_addClock 45 = .ok (.ireturn, 1) := by decide +kernel
theorem dX4_addClock_46 : decode cX4_addClock 46 = .ok (.aload_n 0, 1) := by decide +kernel
theorem dX4_addClock_47 : decode cX4_addClock 47 = .ok (.getfield 17, 3) := by decide +kernel
theorem dX4_addClock_50 : decode cX4_addClock 50 = .ok (.aload_n 0, 1) := by decide +kernel
theorem dX4_addClock_51 : decode cX4_addClock 51 = .ok (.getfield 34, 3) := by decide +kernel
theorem dX4_addClock_54 : decode cX4_addClock 54 = .ok (.aaload, 1) := by decide +kernel
theorem dX4_addClock_55 : decode cX4_addClock 55 = .ok (.iload_n 1, 1) := by decide +kernel
theorem dX4_addClock_56 : decode cX4_addClock 56 = .ok (.iload_n 2, 1) := by decide +kernel
theorem dX4_addClock_57 : decode cX4_addClock 57 = .ok (.iload_n 3, 1) := by decide +kernel
theorem dX4_addClock_58 : decode cX4_addClock 58 = .ok (.invokevirtual 58, 3) := by decide +kernel
theorem dX4_addClock_61 : decode cX4_addClock 61 = .ok (.aload_n 0, 1) := by decide +kernel
theorem dX4_addClock_62 : decode cX4_addClock 62 = .ok (.dup, 1) := by decide +kernel
theorem dX4_addClock_63 : decode cX4_addClock 63 = .ok (.getfield 34, 3) := by decide +kernel
theorem dX4_addClock_66 : decode cX4_addClock 66 = .ok (.iconst 1, 1) := by decide +kernel
theorem dX4_addClock_67 : decode cX4_addClock 67 = .ok (.iadd, 1) := by decide +kernel
theorem dX4_addClock_68 : decode cX4_addClock 68 = .ok (.putfield 34, 3) := by decide +kernel
theorem dX4_addClock_71 : decode cX4_addClock 71 = .ok (.aload_n 0, 1) := by decide +kernel
theorem dX4_addClock_72 : decode cX4_addClock 72 = .ok (.getfield 34, 3) := by decide +kernel
theorem dX4_addClock_75 : decode cX4_addClock 75 = .ok (.iconst 1, 1) := by decide +kernel
theorem dX4_addClock_76 : decode cX4_addClock 76 = .ok (.isub, 1) := by decide +kernel
theorem dX4_addClock_77 : decode cX4_addClock 77 = .ok (.ireturn, 1) := by decide +kernel
set_option maxRecDepth 20000 in
theorem ggX4_addLadder_X5_isWithin : GoodIn wsX4_addLadder wsX5_isWithin := goodIn_r _ [5] (by decide +kernel) (by decide +kernel)
set_option maxRecDepth 20000 in
theorem gX4_addLadder_X5_isWithin_n54 : GoodIn wsX4_addLadder (wsX5_isWithin) := ggX4_addLadder_X5_isWithin
theorem dX4_addLadder_0 : decode cX4_addLadder 0 = .ok (.iload_n 1, 1) := by decide +kernel
theorem dX4_addLadder_1 : decode cX4_addLadder 1 = .ok (.iconst 1, 1) := by decide +kernel
theorem dX4_addLadder_2 : decode cX4_addLadder 2 = .ok (.bipush 30, 2) := by decide +kernel
theorem dX4_addLadder_4 : decode cX4_addLadder 4 = .ok (.invokestatic 54, 3) := by decide +kernel
theorem dX4_addLadder_7 : decode cX4_addLadder 7 = .ok (.ifCond .ne 6, 3) := by decide +kernel
theorem dX4_addLadder_10 : decode cX4_addLadder 10 = .ok (.bipush (-2), 2) := by decide +kernel
theorem dX4_addLadder_12 : decode cX4_addLadder 12 = .ok (.ireturn, 1) := by decide +kernel
theorem dX4_addLadder_13 : decode cX4_addLadder 13 = .ok (.aload_n 0, 1) := by decide +kernel
theorem dX4_addLadder_14 : decode cX4_addLadder 14 = .ok (.getfield 42, 3) := by decide +kernel
theorem dX4_addLadder_17 : decode cX4_addLadder 17 = .ok (.iconst 4, 1) := by decide +kernel
theorem dX4_addLadder_18 : decode cX4_addLadder 18 = .ok (.if_icmp .lt 6, 3) := by decide +kernel
theorem dX4_addLadder_21 : decode cX4_addLadder 21 = .ok (.bipush (-4), 2) := by decide +kernel
theorem dX4_addLadder_23 : decode cX4_addLadder 23 = .ok (.ireturn, 1) := by decide +kernel
theorem dX4_addLadder_24 : decode cX4_addLadder 24 = .ok (.aload_n 0, 1) := by decide +kernel
theorem dX4_addLadder_25 : decode cX4_addLadder 25 = .ok (.getfield 21, 3) := by decide +kernel
theorem dX4_addLadder_28 : decode cX4_addLadder 28 = .ok (.aload_n 0, 1) := by decide +kernel
theorem dX4_addLadder_29 : decode cX4_addLadder 29 = .ok (.getfield 42, 3) := by decide +kernel
theorem dX4_addLadder_32 : decode cX4_addLadder 32 = .ok (.iload_n 1, 1) := by decide +kernel
theorem dX4_addLadder_33 : decode cX4_addLadder 33 = .ok (.iastore, 1) := by decide +kernel
theorem dX4_addLadder_34 : decode cX4_addLadder 34 = .ok (.aload_n 0, 1) := by decide +kernel
theorem dX4_addLadder_35 : decode cX4_addLadder 35 = .ok (.dup, 1) := by decide +kernel
theorem dX4_addLadder_36 : decode cX4_addLadder 36 = .ok (.getfield 42, 3) := by decide +kernel
theorem dX4_addLadder_39 : decode cX4_addLadder 39 = .ok (.iconst 1, 1) := by decide +kernel
theorem dX4_addLadder_40 : decode cX4_addLadder 40 = .ok (.iadd, 1) := by decide +kernel
theorem dX4_addLadder_41 : decode cX4_addLadder 41 = .ok (.putfield 42, 3) := by decide +kernel
theorem dX4_addLadder_44 : decode cX4_addLadder 44 = .ok (.aload_n 0, 1) := by decide +kernel
theorem dX4_addLadder_45 : decode cX4_addLadder 45 = .ok (.getfield 42, 3) := by decide +kernel
theorem dX4_addLadder_48 : decode cX4_addLadder 48 = .ok (.iconst 1, 1) := by decide +kernel
theorem dX4_addLadder_49 : decode cX4_addLadder 49 = .ok (.isub, 1) := by decide +kernel
theorem dX4_addLadder_50 : decode cX4_addLadder 50 = .ok (.ireturn, 1) := by decide +kernel
set_option maxRecDepth 20000 in
theorem ggX4_turnScrew_X4_hasClock : GoodIn wsX4_turnScrew wsX4_hasClock := goodIn_r _ [7, 8, 12, 13, 14, 15, 16, 17, 18] (by decide +kernel) (by decide +kernel)
set_option maxRecDepth 20000 in
theorem gX4_turnScrew_X4_hasClock : GoodIn wsX4_turnScrew (wsV RX4 62 RX4 yX4_hasClock wsX4_hasClock) := goodIn_app (goodIn_of _ (by decide +kernel)) ggX4_turnScrew_X4_hasClock
set_option maxRecDepth 20000 in
theorem ggX4_turnScrew_X5_isWithin : GoodIn wsX4_turnScrew wsX5_isWithin := goodIn_r _ [11] (by decide +kernel) (by decide +kernel)
set_option maxRecDepth 20000 in
theorem gX4_turnScrew_X5_isWithin_n54 : GoodIn wsX4_turnScrew (wsX5_isWithin) := ggX4_turnScrew_X5_isWithin
theorem dX4_turnScrew_0 : decode cX4_turnScrew 0 = .ok (.aload_n 0, 1) := by decide +kernel
theorem dX4_turnScrew_1 : decode cX4_turnScrew 1 = .ok (.iload_n 1, 1) := by decide +kernel
theorem dX4_turnScrew_2 : decode cX4_turnScrew 2 = .ok (.invokevirtual 62, 3) := by decide +kernel
theorem dX4_turnScrew_5 : decode cX4_turnScrew 5 = .ok (.ifCond .ne 5, 3) := by decide +kernel
theorem dX4_turnScrew_8 : decode cX4_turnScrew 8 = .ok (.iconst (-1), 1) := by decide +kernel
theorem dX4_turnScrew_9 : decode cX4_turnScrew 9 = .ok (.ireturn, 1) := by decide +kernel
theorem dX4_turnScrew_10 : decode cX4_turnScrew 10 = .ok (.iload_n 2, 1) := by decide +kernel
theorem dX4_turnScrew_11 : decode cX4_turnScrew 11 = .ok (.bipush (-20), 2) := by decide +kernel
theorem dX4_turnScrew_13 : decode cX4_turnScrew 13 = .ok (.bipush 20, 2) := by decide +kernel
theorem dX4_turnScrew_15 : decode cX4_turnScrew 15 = .ok (.invokestatic 54, 3) := by decide +kernel
theorem dX4_turnScrew_18 : decode cX4_turnScrew 18 = .ok (.ifCond .ne 6, 3) := by decide +kernel
theorem dX4_turnScrew_21 : decode cX4_turnScrew 21 = .ok (.bipush (-2), 2) := by decide +kernel
theorem dX4_turnScrew_23 : decode cX4_turnScrew 23 = .ok (.ireturn, 1) := by decide +kernel
theorem dX4_turnScrew_24 : decode cX4_turnScrew 24 = .ok (.aload_n 0, 1) := by decide +kernel
theorem dX4_turnScrew_25 : decode cX4_turnScrew 25 = .ok (.getfield 17, 3) := by decide +kernel
theorem dX4_turnScrew_28 : decode cX4_turnScrew 28 = .ok (.iload_n 1, 1) := by decide +kernel
theorem dX4_turnScrew_29 : decode cX4_turnScrew 29 = .ok (.aaload, 1) := by decide +kernel
theorem dX4_turnScrew_30 : decode cX4_turnScrew 30 = .ok (.getfield 66, 3) := by decide +kernel
theorem dX4_turnScrew_33 : decode cX4_turnScrew 33 = .ok (.iload_n 2, 1) := by decide +kernel
theorem dX4_turnScrew_34 : decode cX4_turnScrew 34 = .ok (.iadd, 1) := by decide +kernel
theorem dX4_turnScrew_35 : decode cX4_turnScrew 35 = .ok (.istore_n 3, 1) := by decide +kernel
theorem dX4_turnScrew_36 : decode cX4_turnScrew 36 = .ok (.iload_n 3, 1) := by decide +kernel
theorem dX4_turnScrew_37 : decode cX4_turnScrew 37 = .ok (.bipush (-20), 2) := by decide +kernel
theorem dX4_turnScrew_39 : decode cX4_turnScrew 39 = .ok (.bipush 20, 2) := by decide +kernel
theorem dX4_turnScrew_41 : decode cX4_turnScrew 41 = .ok (.invokestatic 54, 3) := by decide +kernel
theorem dX4_turnScrew_44 : decode cX4_turnScrew 44 = .ok (.ifCond .ne 6, 3) := by decide +kernel
theorem dX4_turnScrew_47 : decode cX4_turnScrew 47 = .ok (.bipush (-5), 2) := by decide +kernel
theorem dX4_turnScrew_49 : decode cX4_turnScrew 49 = .ok (.ireturn, 1) := by decide +kernel
theorem dX4_turnScrew_50 : decode cX4_turnScrew 50 = .ok (.aload_n 0, 1) := by decide +kernel
theorem dX4_turnScrew_51 : decode cX4_turnScrew 51 = .ok (.getfield 17, 3) := by decide +kernel
theorem dX4_turnScrew_54 : decode cX4_turnScrew 54 = .ok (.iload_n 1, 1) := by decide +kernel
theorem dX4_turnScrew_55 : decode cX4_turnScrew 55 = .ok (.aaload, 1) := by decide +kernel
theorem dX4_turnScrew_56 : decode cX4_turnScrew 56 = .ok (.iload_n 3, 1) := by decide +kernel
theorem dX4_turnScrew_57 : decode cX4_turnScrew 57 = .ok (.putfield 66, 3) := by decide +kernel
theorem dX4_turnScrew_60 : decode cX4_turnScrew 60 = .ok (.iload_n 3, 1) := by decide +kernel
theorem dX4_turnScrew_61 : decode cX4_turnScrew 61 = .ok (.bipush 20, 2) := by decide +kernel
theorem dX4_turnScrew_63 : decode cX4_turnScrew 63 = .ok (.iadd, 1) := by decide +kernel
theorem dX4_turnScrew_64 : decode cX4_turnScrew 64 = .ok (.ireturn, 1) := by decide +kernel
set_option maxRecDepth 20000 in
theorem ggX4_passDays_X5_isWithin : GoodIn wsX4_passDays wsX5_isWithin := goodIn_r _ [7] (by decide +kernel) (by decide +kernel)
set_option maxRecDepth 20000 in
theorem gX4_passDays_X5_isWithin_n54 : GoodIn wsX4_passDays (wsX5_isWithin) := ggX4_passDays_X5_isWithin
set_option maxRecDepth 20000 in
theorem ggX4_passDays_X0_passDay : GoodIn wsX4_passDays wsX0_passDay := goodIn_r _ [12, 13, 14, 15, 16, 17, 18, 19, 11, 20, 21, 22, 36, 37, 38, 39, 40, 41, 42, 43] (by decide +kernel) (by decide +kernel)
set_option maxRecDepth 20000 in
theorem gX4_passDays_X0_passDay : GoodIn wsX4_passDays (wsV RX4 69 RX0 yX0_passDay wsX0_passDay) := goodIn_app (goodIn_of _ (by decide +kernel)) ggX4_passDays_X0_passDay
set_option maxRecDepth 20000 in
theorem ggX4_passDays_X4_numberThatGo : GoodIn wsX4_passDays wsX4_numberThatGo := goodIn_r _ [27, 2, 3, 28, 29, 30, 31, 32, 33, 34, 35, 36, 37, 38, 39, 40, 41, 42, 43] (by decide +kernel) (by decide +kernel)
set_option maxRecDepth 20000 in
theorem gX4_passDays_X4_numberThatGo : GoodIn wsX4_passDays (wsV RX4 73 RX4 yX4_numberThatGo wsX4_numberThatGo) := goodIn_app (goodIn_of _ (by decide +kernel)) ggX4_passDays_X4_numberThatGo
theorem dX4_passDays_0 : decode cX4_passDays 0 = .ok (.iload_n 1, 1) := by decide +kernel
theorem dX4_passDays_1 : decode cX4_passDays 1 = .ok (.iconst 1, 1) := by decide +kernel
theorem dX4_passDays_2 : decode cX4_passDays 2 = .ok (.bipush 99, 2) := by decide +kernel
theorem dX4_passDays_4 : decode cX4_passDays 4 = .ok (.invokestatic 54, 3) := by decide +kernel
theorem dX4_passDays_7 : decode cX4_passDays 7 = .ok (.ifCond .ne 6, 3) := by decide +kernel
theorem dX4_passDays_10 : decode cX4_passDays 10 = .ok (.bipush (-2), 2) := by decide +kernel
theorem dX4_passDays_12 : decode cX4_passDays 12 = .ok (.ireturn, 1) := by decide +kernel
theorem dX4_passDays_13 : decode cX4_passDays 13 = .ok (.aload_n 0, 1) := by decide +kernel
theorem dX4_passDays_14 : decode cX4_passDays 14 = .ok (.getfield 45, 3) := by decide +kernel
theorem dX4_passDays_17 : decode cX4_passDays 17 = .ok (.iload_n 1, 1) := by decide +kernel
theorem dX4_passDays_18 : decode cX4_passDays 18 = .ok (.iadd, 1) := by decide +kernel
theorem dX4_passDays_19 : decode cX4_passDays 19 = .ok (.sipush 9999, 3) := by decide +kernel
theorem dX4_passDays_22 : decode cX4_passDays 22 = .ok (.if_icmp .le 6, 3) := by decide +kernel
theorem dX4_passDays_25 : decode cX4_passDays 25 = .ok (.bipush (-5), 2) := by decide +kernel
theorem dX4_passDays_27 : decode cX4_passDays 27 = .ok (.ireturn, 1) := by decide +kernel
theorem dX4_passDays_28 : decode cX4_passDays 28 = .ok (.iconst 0, 1) := by decide +kernel
theorem dX4_passDays_29 : decode cX4_passDays 29 = .ok (.istore_n 2, 1) := by decide +kernel
theorem dX4_passDays_30 : decode cX4_passDays 30 = .ok (.iload_n 2, 1) := by decide +kernel
theorem dX4_passDays_31 : decode cX4_passDays 31 = .ok (.iload_n 1, 1) := by decide +kernel
theorem dX4_passDays_32 : decode cX4_passDays 32 = .ok (.if_icmp .ge 40, 3) := by decide +kernel
theorem dX4_passDays_35 : decode cX4_passDays 35 = .ok (.iconst 0, 1) := by decide +kernel
theorem dX4_passDays_36 : decode cX4_passDays 36 = .ok (.istore_n 3, 1) := by decide +kernel
theorem dX4_passDays_37 : decode cX4_passDays 37 = .ok (.iload_n 3, 1) := by decide +kernel
theorem dX4_passDays_38 : decode cX4_passDays 38 = .ok (.aload_n 0, 1) := by decide +kernel
theorem dX4_passDays_39 : decode cX4_passDays 39 = .ok (.getfield 34, 3) := by decide +kernel
theorem dX4_passDays_42 : decode cX4_passDays 42 = .ok (.if_icmp .ge 24, 3) := by decide +kernel
theorem dX4_passDays_45 : decode cX4_passDays 45 = .ok (.aload_n 0, 1) := by decide +kernel
theorem dX4_passDays_46 : decode cX4_passDays 46 = .ok (.getfield 17, 3) := by decide +kernel
theorem dX4_passDays_49 : decode cX4_passDays 49 = .ok (.iload_n 3, 1) := by decide +kernel
theorem dX4_passDays_50 : decode cX4_passDays 50 = .ok (.aaload, 1) := by decide +kernel
theorem dX4_passDays_51 : decode cX4_passDays 51 = .ok (.aload_n 0, 1) := by decide +kernel
theorem dX4_passDays_52 : decode cX4_passDays 52 = .ok (.getfield 9, 3) := by decide +kernel
theorem dX4_passDays_55 : decode cX4_passDays 55 = .ok (.iconst 1, 1) := by decide +kernel
theorem dX4_passDays_56 : decode cX4_passDays 56 = .ok (.iaload, 1) := by decide +kernel
theorem dX4_passDays_57 : decode cX4_passDays 57 = .ok (.invokevirtual 69, 3) := by decide +kernel
theorem dX4_passDays_60 : decode cX4_passDays 60 = .ok (.iinc 3 1, 3) := by decide +kernel
theorem dX4_passDays_63 : decode cX4_passDays 63 = .ok (.goto (-26), 3) := by decide +kernel
theorem dX4_passDays_66 : decode cX4_passDays 66 = .ok (.iinc 2 1, 3) := by decide +kernel
theorem dX4_passDays_69 : decode cX4_passDays 69 = .ok (.goto (-39), 3) := by decide +kernel
theorem dX4_passDays_72 : decode cX4_passDays 72 = .ok (.aload_n 0, 1) := by decide +kernel
theorem dX4_passDays_73 : decode cX4_passDays 73 = .ok (.dup, 1) := by decide +kernel
theorem dX4_passDays_74 : decode cX4_passDays 74 = .ok (.getfield 45, 3) := by decide +kernel
theorem dX4_passDays_77 : decode cX4_passDays 77 = .ok (.iload_n 1, 1) := by decide +kernel
theorem dX4_passDays_78 : decode cX4_passDays 78 = .ok (.iadd, 1) := by decide +kernel
theorem dX4_passDays_79 : decode cX4_passDays 79 = .ok (.putfield 45, 3) := by decide +kernel
theorem dX4_passDays_82 : decode cX4_passDays 82 = .ok (.aload_n 0, 1) := by decide +kernel
theorem dX4_passDays_83 : decode cX4_passDays 83 = .ok (.getfield 34, 3) := by decide +kernel
theorem dX4_passDays_86 : decode cX4_passDays 86 = .ok (.aload_n 0, 1) := by decide +kernel
theorem dX4_passDays_87 : decode cX4_passDays 87 = .ok (.invokevirtual 73, 3) := by decide +kernel
theorem dX4_passDays_90 : decode cX4_passDays 90 = .ok (.isub, 1) := by decide +kernel
theorem dX4_passDays_91 : decode cX4_passDays 91 = .ok (.ireturn, 1) := by decide +kernel
set_option maxRecDepth 20000 in
theorem ggX4_changeClocks_X4_numberThatGo : GoodIn wsX4_changeClocks wsX4_numberThatGo := goodIn_r _ [9, 1, 2, 3, 10, 11, 12, 13, 14, 15, 16, 17, 18, 19, 20, 21, 22, 23, 24] (by decide +kernel) (by decide +kernel)
set_option maxRecDepth 20000 in
theorem gX4_changeClocks_X4_numberThatGo : GoodIn wsX4_changeClocks (wsV RX4 73 RX4 yX4_numberThatGo wsX4_numberThatGo) := goodIn_app (goodIn_of _ (by decide +kernel)) ggX4_changeClocks_X4_numberThatGo
theorem dX4_changeClocks_0 : decode cX4_changeClocks 0 = .ok (.iload_n 1, 1) := by decide +kernel
theorem dX4_changeClocks_1 : decode cX4_changeClocks 1 = .ok (.ifCond .eq 11, 3) := by decide +kernel
theorem dX4_changeClocks_4 : decode cX4_changeClocks 4 = .ok (.iload_n 1, 1) := by decide +kernel
theorem dX4_changeClocks_5 : decode cX4_changeClocks 5 = .ok (.iconst 1, 1) := by decide +kernel
theorem dX4_changeClocks_6 : decode cX4_changeClocks 6 = .ok (.if_icmp .eq 6, 3) := by decide +kernel
theorem dX4_changeClocks_9 : decode cX4_changeClocks 9 = .ok (.bipush (-2), 2) := by decide +kernel
theorem dX4_changeClocks_11 : decode cX4_changeClocks 11 = .ok (.ireturn, 1) := by decide +kernel
theorem dX4_changeClocks_12 : decode cX4_changeClocks 12 = .ok (.iload_n 1, 1) := by decide +kernel
theorem dX4_changeClocks_13 : decode cX4_changeClocks 13 = .ok (.ifCond .ne 9, 3) := by decide +kernel
theorem dX4_changeClocks_16 : decode cX4_changeClocks 16 = .ok (.sipush 3600, 3) := by decide +kernel
theorem dX4_changeClocks_19 : decode cX4_changeClocks 19 = .ok (.goto 6, 3) := by decide +kernel
theorem dX4_changeClocks_22 : decode cX4_changeClocks 22 = .ok (.sipush (-3600), 3) := by decide +kernel
theorem dX4_changeClocks_25 : decode cX4_changeClocks 25 = .ok (.istore_n 2, 1) := by decide +kernel
theorem dX4_changeClocks_26 : decode cX4_changeClocks 26 = .ok (.iconst 0, 1) := by decide +kernel
theorem dX4_changeClocks_27 : decode cX4_changeClocks 27 = .ok (.istore_n 3, 1) := by decide +kernel
theorem dX4_changeClocks_28 : decode cX4_changeClocks 28 = .ok (.iload_n 3, 1) := by decide +kernel
theorem dX4_changeClocks_29 : decode cX4_changeClocks 29 = .ok (.aload_n 0, 1) := by decide +kernel
theorem dX4_changeClocks_30 : decode cX4_changeClocks 30 = .ok (.getfield 34, 3) := by decide +kernel
theorem dX4_changeClocks_33 : decode cX4_changeClocks 33 = .ok (.if_icmp .ge 36, 3) := by decide +kernel
theorem dX4_changeClocks_36 : decode cX4_changeClocks 36 = .ok (.aload_n 0, 1) := by decide +kernel
theorem dX4_changeClocks_37 : decode cX4_changeClocks 37 = .ok (.getfield 17, 3) := by decide +kernel
theorem dX4_changeClocks_40 : decode cX4_changeClocks 40 = .ok (.iload_n 3, 1) := by decide +kernel
theorem dX4_changeClocks_41 : decode cX4_changeClocks 41 = .ok (.aaload, 1) := by decide +kernel
theorem dX4_changeClocks_42 : decode cX4_changeClocks 42 = .ok (.getfield 77, 3) := by decide +kernel
theorem dX4_changeClocks_45 : decode cX4_changeClocks 45 = .ok (.ifCond .eq 18, 3) := by decide +kernel
theorem dX4_changeClocks_48 : decode cX4_changeClocks 48 = .ok (.aload_n 0, 1) := by decide +kernel
theorem dX4_changeClocks_49 : decode cX4_changeClocks 49 = .ok (.getfield 17, 3) := by decide +kernel
theorem dX4_changeClocks_52 : decode cX4_changeClocks 52 = .ok (.iload_n 3, 1) := by decide +kernel
theorem dX4_changeClocks_53 : decode cX4_changeClocks 53 = .ok (.aaload, 1) := by decide +kernel
theorem dX4_changeClocks_54 : decode cX4_changeClocks 54 = .ok (.dup, 1) := by decide +kernel
theorem dX4_changeClocks_55 : decode cX4_changeClocks 55 = .ok (.getfield 81, 3) := by decide +kernel
theorem dX4_changeClocks_58 : decode cX4_changeClocks 58 = .ok (.iload_n 2, 1) := by decide +kernel
theorem dX4_changeClocks_59 : decode cX4_changeClocks 59 = .ok (.iadd, 1) := by decide +kernel
theorem dX4_changeClocks_60 : decode cX4_changeClocks 60 = .ok (.putfield 81, 3) := by decide +kernel
theorem dX4_changeClocks_63 : decode cX4_changeClocks 63 = .ok (.iinc 3 1, 3) := by decide +kernel
theorem dX4_changeClocks_66 : decode cX4_changeClocks 66 = .ok (.goto (-38), 3) := by decide +kernel
theorem dX4_changeClocks_69 : decode cX4_changeClocks 69 = .ok (.aload_n 0, 1) := by decide +kernel
theorem dX4_changeClocks_70 : decode cX4_changeClocks 70 = .ok (.invokevirtual 73, 3) := by decide +kernel
theorem dX4_changeClocks_73 : decode cX4_changeClocks 73 = .ok (.ireturn, 1) := by decide +kernel
set_option maxRecDepth 20000 in
theorem ggX4_walkBeat_X4_minutesOf : GoodIn wsX4_walkBeat wsX4_minutesOf := goodIn_r _ [9, 1, 2, 10, 11, 12, 13, 14, 3, 15, 16, 17, 18, 19, 20, 21, 22, 23, 24, 8, 25, 26, 27, 28, 29, 30, 31, 32, 33, 34, 35, 36, 37, 62, 63, 64, 65, 66, 67, 68, 69, 70, 71, 72, 73, 74, 75, 76, 77, 78] (by decide +kernel) (by decide +kernel)
set_option maxRecDepth 20000 in
theorem gX4_walkBeat_X4_minutesOf : GoodIn wsX4_walkBeat (wsV RX4 84 RX4 yX4_minutesOf wsX4_minutesOf) := goodIn_app (goodIn_of _ (by decide +kernel)) ggX4_walkBeat_X4_minutesOf
set_option maxRecDepth 20000 in
theorem ggX4_walkBeat_X3_at : GoodIn wsX4_walkBeat wsX3_at := goodIn_r _ [19, 20, 21, 62, 63] (by decide +kernel) (by decide +kernel)
set_option maxRecDepth 20000 in
theorem gX4_walkBeat_X3_at : GoodIn wsX4_walkBeat (wsV RX4 93 RX3 yX3_at wsX3_at) := goodIn_app (goodIn_of _ (by decide +kernel)) ggX4_walkBeat_X3_at
set_option maxRecDepth 20000 in
theorem ggX4_walkBeat_X4_hasClock : GoodIn wsX4_walkBeat wsX4_hasClock := goodIn_r _ [25, 26, 64, 65, 66, 67, 68, 69, 70] (by decide +kernel) (by decide +kernel)
set_option maxRecDepth 20000 in
theorem gX4_walkBeat_X4_hasClock : GoodIn wsX4_walkBeat (wsV RX4 62 RX4 yX4_hasClock wsX4_hasClock) := goodIn_app (goodIn_of _ (by decide +kernel)) ggX4_walkBeat_X4_hasClock
set_option maxRecDepth 20000 in
theorem ggX4_walkBeat_X4_canBeWound : GoodIn wsX4_walkBeat wsX4_canBeWound := goodIn_r _ [37, 31, 27, 28, 29, 8, 30, 32, 33, 71, 72, 73, 74, 75, 76, 77, 78, 64, 65, 66, 67, 68, 69, 70] (by decide +kernel) (by decide +kernel)
set_option maxRecDepth 20000 in
theorem gX4_walkBeat_X4_canBeWound : GoodIn wsX4_walkBeat (wsV RX4 97 RX4 yX4_canBeWound wsX4_canBeWound) := goodIn_app (goodIn_of _ (by decide +kernel)) ggX4_walkBeat_X4_canBeWound
set_option maxRecDepth 20000 in
theorem ggX4_walkBeat_X0_windAndSet : GoodIn wsX4_walkBeat wsX0_windAndSet := goodIn_r _ [42, 43, 44, 45, 46, 47, 48, 49, 41, 50, 51, 12, 13, 14, 52, 53, 54, 55, 56, 57, 58, 59, 60, 61, 71, 72, 73, 74, 75, 76, 77, 78] (by decide +kernel) (by decide +kernel)
set_option maxRecDepth 20000 in
theorem gX4_walkBeat_X0_windAndSet : GoodIn wsX4_walkBeat (wsV RX4 101 RX0 yX0_windAndSet wsX0_windAndSet) := goodIn_app (goodIn_of _ (by decide +kernel)) ggX4_walkBeat_X0_windAndSet
theorem dX4_walkBeat_0 : decode cX4_walkBeat 0 = .ok (.aload_n 0, 1) := by decide +kernel
theorem dX4_walkBeat_1 : decode cX4_walkBeat 1 = .ok (.aload_n 1, 1) := by decide +kernel
theorem dX4_walkBeat_2 : decode cX4_walkBeat 2 = .ok (.invokevirtual 84, 3) := by decide +kernel
theorem dX4_walkBeat_5 : decode cX4_walkBeat 5 = .ok (.istore_n 2, 1) := by decide +kernel
theorem dX4_walkBeat_6 : decode cX4_walkBeat 6 = .ok (.iload_n 2, 1) := by decide +kernel
theorem dX4_walkBeat_7 : decode cX4_walkBeat 7 = .ok (.ifCond .ge 5, 3) := by decide +kernel
theorem dX4_walkBeat_10 : decode cX4_walkBeat 10 = .ok (.iload_n 2, 1) := by decide +kernel
theorem dX4_walkBeat_11 : decode cX4_walkBeat 11 = .ok (.ireturn, 1) := by decide +kernel
theorem dX4_walkBeat_12 : decode cX4_walkBeat 12 = .ok (.iconst 0, 1) := by decide +kernel
theorem dX4_walkBeat_13 : decode cX4_walkBeat 13 = .ok (.istore_n 3, 1) := by decide +kernel
theorem dX4_walkBeat_14 : decode cX4_walkBeat 14 = .ok (.iload_n 3, 1) := by decide +kernel
theorem dX4_walkBeat_15 : decode cX4_walkBeat 15 = .ok (.aload_n 1, 1) := by decide +kernel
theorem dX4_walkBeat_16 : decode cX4_walkBeat 16 = .ok (.getfield 88, 3) := by decide +kernel
theorem dX4_walkBeat_19 : decode cX4_walkBeat 19 = .ok (.if_icmp .ge 55, 3) := by decide +kernel
theorem dX4_walkBeat_22 : decode cX4_walkBeat 22 = .ok (.aload_n 1, 1) := by decide +kernel
theorem dX4_walkBeat_23 : decode cX4_walkBeat 23 = .ok (.iload_n 3, 1) := by decide +kernel
theorem dX4_walkBeat_24 : decode cX4_walkBeat 24 = .ok (.invokevirtual 93, 3) := by decide +kernel
theorem dX4_walkBeat_27 : decode cX4_walkBeat 27 = .ok (.istore 4, 2) := by decide +kernel
theorem dX4_walkBeat_29 : decode cX4_walkBeat 29 = .ok (.aload_n 0, 1) := by decide +kernel
theorem dX4_walkBeat_30 : decode cX4_walkBeat 30 = .ok (.iload 4, 2) := by decide +kernel
theorem dX4_walkBeat_32 : decode cX4_walkBeat 32 = .ok (.invokevirtual 62, 3) := by decide +kernel
theorem dX4_walkBeat_35 : decode cX4_walkBeat 35 = .ok (.ifCond .eq 33, 3) := by decide +kernel
theorem dX4_walkBeat_38 : decode cX4_walkBeat 38 = .ok (.aload_n 0, 1) := by decide +kernel
theorem dX4_walkBeat_39 : decode cX4_walkBeat 39 = .ok (.aload_n 0, 1) := by decide +kernel
theorem dX4_walkBeat_40 : decode cX4_walkBeat 40 = .ok (.getfield 17, 3) := by decide +kernel
theorem dX4_walkBeat_43 : decode cX4_walkBeat 43 = .ok (.iload 4, 2) := by decide +kernel
theorem dX4_walkBeat_45 : decode cX4_walkBeat 45 = .ok (.aaload, 1) := by decide +kernel
theorem dX4_walkBeat_46 : decode cX4_walkBeat 46 = .ok (.invokevirtual 97, 3) := by decide +kernel
theorem dX4_walkBeat_49 : decode cX4_walkBeat 49 = .ok (.ifCond .eq 19, 3) := by decide +kernel
theorem dX4_walkBeat_52 : decode cX4_walkBeat 52 = .ok (.aload_n 0, 1) := by decide +kernel
theorem dX4_walkBeat_53 : decode cX4_walkBeat 53 = .ok (.getfield 17, 3) := by decide +kernel
theorem dX4_walkBeat_56 : decode cX4_walkBeat 56 = .ok (.iload 4, 2) := by decide +kernel
theorem dX4_walkBeat_58 : decode cX4_walkBeat 58 = .ok (.aaload, 1) := by decide +kernel
theorem dX4_walkBeat_59 : decode cX4_walkBeat 59 = .ok (.aload_n 0, 1) := by decide +kernel
theorem dX4_walkBeat_60 : decode cX4_walkBeat 60 = .ok (.getfield 9, 3) := by decide +kernel
theorem dX4_walkBeat_63 : decode cX4_walkBeat 63 = .ok (.iconst 0, 1) := by decide +kernel
theorem dX4_walkBeat_64 : decode cX4_walkBeat 64 = .ok (.iaload, 1) := by decide +kernel
theorem dX4_walkBeat_65 : decode cX4_walkBeat 65 = .ok (.invokevirtual 101, 3) := by decide +kernel
theorem dX4_walkBeat_68 : decode cX4_walkBeat 68 = .ok (.iinc 3 1, 3) := by decide +kernel
theorem dX4_walkBeat_71 : decode cX4_walkBeat 71 = .ok (.goto (-57), 3) := by decide +kernel
theorem dX4_walkBeat_74 : decode cX4_walkBeat 74 = .ok (.aload_n 0, 1) := by decide +kernel
theorem dX4_walkBeat_75 : decode cX4_walkBeat 75 = .ok (.dup, 1) := by decide +kernel
theorem dX4_walkBeat_76 : decode cX4_walkBeat 76 = .ok (.getfield 48, 3) := by decide +kernel
theorem dX4_walkBeat_79 : decode cX4_walkBeat 79 = .ok (.iload_n 2, 1) := by decide +kernel
theorem dX4_walkBeat_80 : decode cX4_walkBeat 80 = .ok (.iadd, 1) := by decide +kernel
theorem dX4_walkBeat_81 : decode cX4_walkBeat 81 = .ok (.putfield 48, 3) := by decide +kernel
theorem dX4_walkBeat_84 : decode cX4_walkBeat 84 = .ok (.iload_n 2, 1) := by decide +kernel
theorem dX4_walkBeat_85 : decode cX4_walkBeat 85 = .ok (.ireturn, 1) := by decide +kernel
set_option maxRecDepth 20000 in
theorem ggX4_minutesOf_X3_at : GoodIn wsX4_minutesOf wsX3_at := goodIn_r _ [13, 14, 15, 33, 34] (by decide +kernel) (by decide +kernel)
set_option maxRecDepth 20000 in
theorem gX4_minutesOf_X3_at : GoodIn wsX4_minutesOf (wsV RX4 93 RX3 yX3_at wsX3_at) := goodIn_app (goodIn_of _ (by decide +kernel)) ggX4_minutesOf_X3_at
set_option maxRecDepth 20000 in
theorem ggX4_minutesOf_X4_hasClock : GoodIn wsX4_minutesOf wsX4_hasClock := goodIn_r _ [20, 21, 35, 36, 37, 38, 39, 40, 41] (by decide +kernel) (by decide +kernel)
set_option maxRecDepth 20000 in
theorem gX4_minutesOf_X4_hasClock : GoodIn wsX4_minutesOf (wsV RX4 62 RX4 yX4_hasClock wsX4_hasClock) := goodIn_app (goodIn_of _ (by decide +kernel)) ggX4_minutesOf_X4_hasClock
set_option maxRecDepth 20000 in
theorem ggX4_minutesOf_X4_ladderNeeded : GoodIn wsX4_minutesOf wsX4_ladderNeeded := goodIn_r _ [25, 26, 27, 28, 42, 43, 44, 45, 46, 47, 48, 49, 35, 36, 37, 38, 39, 40, 41] (by decide +kernel) (by decide +kernel)
set_option maxRecDepth 20000 in
theorem gX4_minutesOf_X4_ladderNeeded : GoodIn wsX4_minutesOf (wsV RX4 112 RX4 yX4_ladderNeeded wsX4_ladderNeeded) := goodIn_app (goodIn_of _ (by decide +kernel)) ggX4_minutesOf_X4_ladderNeeded
set_option maxRecDepth 20000 in
theorem ggX4_minutesOf_X4_canBeWound : GoodIn wsX4_minutesOf wsX4_canBeWound := goodIn_r _ [32, 26, 22, 23, 24, 19, 25, 27, 28, 42, 43, 44, 45, 46, 47, 48, 49, 35, 36, 37, 38, 39, 40, 41] (by decide +kernel) (by decide +kernel)
set_option maxRecDepth 20000 in
theorem gX4_minutesOf_X4_canBeWound : GoodIn wsX4_minutesOf (wsV RX4 97 RX4 yX4_canBeWound wsX4_canBeWound) := goodIn_app (goodIn_of _ (by decide +kernel)) ggX4_minutesOf_X4_canBeWound
theorem dX4_minutesOf_0 : decode cX4_minutesOf 0 = .ok (.iconst 0, 1) := by decide +kernel
theorem dX4_minutesOf_1 : decode cX4_minutesOf 1 = .ok (.istore_n 2, 1) := by decide +kernel
theorem dX4_minutesOf_2 : decode cX4_minutesOf 2 = .ok (.bipush (-6), 2) := by decide +kernel
theorem dX4_minutesOf_4 : decode cX4_minutesOf 4 = .ok (.istore_n 3, 1) := by decide +kernel
theorem dX4_minutesOf_5 : decode cX4_minutesOf 5 = .ok (.iconst 0, 1) := by decide +kernel
theorem dX4_minutesOf_6 : decode cX4_minutesOf 6 = .ok (.istore 4, 2) := by decide +kernel
theorem dX4_minutesOf_8 : decode cX4_minutesOf 8 = .ok (.iconst 0, 1) := by decide +kernel
theorem dX4_minutesOf_9 : decode cX4_minutesOf 9 = .ok (.istore 5, 2) := by decide +kernel
theorem dX4_minutesOf_11 : decode cX4_minutesOf 11 = .ok (.iconst 0, 1) := by decide +kernel
theorem dX4_minutesOf_12 : decode cX4_minutesOf 12 = .ok (.istore 6, 2) := by decide +kernel
theorem dX4_minutesOf_14 : decode cX4_minutesOf 14 = .ok (.iload 6, 2) := by decide +kernel
theorem dX4_minutesOf_16 : decode cX4_minutesOf 16 = .ok (.aload_n 1, 1) := by decide +kernel
theorem dX4_minutesOf_17 : decode cX4_minutesOf 17 = .ok (.getfield 88, 3) := by decide +kernel
theorem dX4_minutesOf_20 : decode cX4_minutesOf 20 = .ok (.if_icmp .ge 102, 3) := by decide +kernel
theorem dX4_minutesOf_23 : decode cX4_minutesOf 23 = .ok (.aload_n 1, 1) := by decide +kernel
theorem dX4_minutesOf_24 : decode cX4_minutesOf 24 = .ok (.iload 6, 2) := by decide +kernel
theorem dX4_minutesOf_26 : decode cX4_minutesOf 26 = .ok (.invokevirtual 93, 3) := by decide +kernel
theorem dX4_minutesOf_29 : decode cX4_minutesOf 29 = .ok (.istore 7, 2) := by decide +kernel
theorem dX4_minutesOf_31 : decode cX4_minutesOf 31 = .ok (.aload_n 0, 1) := by decide +kernel
theorem dX4_minutesOf_32 : decode cX4_minutesOf 32 = .ok (.iload 7, 2) := by decide +kernel
theorem dX4_minutesOf_34 : decode cX4_minutesOf 34 = .ok (.invokevirtual 62, 3) := by decide +kernel
theorem dX4_minutesOf_37 : decode cX4_minutesOf 37 = .ok (.ifCond .ne 5, 3) := by decide +kernel
theorem dX4_minutesOf_40 : decode cX4_minutesOf 40 = .ok (.iconst (-1), 1) := by decide +kernel
theorem dX4_minutesOf_41 : decode cX4_minutesOf 41 = .ok (.ireturn, 1) := by decide +kernel
theorem dX4_minutesOf_42 : decode cX4_minutesOf 42 = .ok (.aload_n 0, 1) := by decide +kernel
theorem dX4_minutesOf_43 : decode cX4_minutesOf 43 = .ok (.getfield 17, 3) := by decide +kernel
theorem dX4_minutesOf_46 : decode cX4_minutesOf 46 = .ok (.iload 7, 2) := by decide +kernel
theorem dX4_minutesOf_48 : decode cX4_minutesOf 48 = .ok (.aaload, 1) := by decide +kernel
theorem dX4_minutesOf_49 : decode cX4_minutesOf 49 = .ok (.astore 8, 2) := by decide +kernel
theorem dX4_minutesOf_51 : decode cX4_minutesOf 51 = .ok (.iload 4, 2) := by decide +kernel
theorem dX4_minutesOf_53 : decode cX4_minutesOf 53 = .ok (.aload 8, 2) := by decide +kernel
theorem dX4_minutesOf_55 : decode cX4_minutesOf 55 = .ok (.getfield 104, 3) := by decide +kernel
theorem dX4_minutesOf_58 : decode cX4_minutesOf 58 = .ok (.iload_n 2, 1) := by decide +kernel
theorem dX4_minutesOf_59 : decode cX4_minutesOf 59 = .ok (.isub, 1) := by decide +kernel
theorem dX4_minutesOf_60 : decode cX4_minutesOf 60 = .ok (.invokestatic 107, 3) := by decide +kernel
theorem dX4_minutesOf_63 : decode cX4_minutesOf 63 = .ok (.iadd, 1) := by decide +kernel
theorem dX4_minutesOf_64 : decode cX4_minutesOf 64 = .ok (.istore 4, 2) := by decide +kernel
theorem dX4_minutesOf_66 : decode cX4_minutesOf 66 = .ok (.aload 8, 2) := by decide +kernel
theorem dX4_minutesOf_68 : decode cX4_minutesOf 68 = .ok (.getfield 104, 3) := by decide +kernel
theorem dX4_minutesOf_71 : decode cX4_minutesOf 71 = .ok (.istore_n 2, 1) := by decide +kernel
theorem dX4_minutesOf_72 : decode cX4_minutesOf 72 = .ok (.aload_n 0, 1) := by decide +kernel
theorem dX4_minutesOf_73 : decode cX4_minutesOf 73 = .ok (.aload 8, 2) := by decide +kernel
theorem dX4_minutesOf_75 : decode cX4_minutesOf 75 = .ok (.invokevirtual 112, 3) := by decide +kernel
theorem dX4_minutesOf_78 : decode cX4_minutesOf 78 = .ok (.istore 9, 2) := by decide +kernel
theorem dX4_minutesOf_80 : decode cX4_minutesOf 80 = .ok (.iload 9, 2) := by decide +kernel
theorem dX4_minutesOf_82 : decode cX4_minutesOf 82 = .ok (.bipush (-6), 2) := by decide +kernel
theorem dX4_minutesOf_84 : decode cX4_minutesOf 84 = .ok (.if_icmp .eq 20, 3) := by decide +kernel
theorem dX4_minutesOf_87 : decode cX4_minutesOf 87 = .ok (.iload 9, 2) := by decide +kernel
theorem dX4_minutesOf_89 : decode cX4_minutesOf 89 = .ok (.iload_n 3, 1) := by decide +kernel
theorem dX4_minutesOf_90 : decode cX4_minutesOf 90 = .ok (.if_icmp .eq 14, 3) := by decide +kernel
theorem dX4_minutesOf_93 : decode cX4_minutesOf 93 = .ok (.iload 4, 2) := by decide +kernel
theorem dX4_minutesOf_95 : decode cX4_minutesOf 95 = .ok (.iconst 2, 1) := by decide +kernel
theorem dX4_minutesOf_96 : decode cX4_minutesOf 96 = .ok (.iload_n 2, 1) := by decide +kernel
theorem dX4_minutesOf_97 : decode cX4_minutesOf 97 = .ok (.imul, 1) := by decide +kernel
theorem dX4_minutesOf_98 : decode cX4_minutesOf 98 = .ok (.iadd, 1) := by decide +kernel
theorem dX4_minutesOf_99 : decode cX4_minutesOf 99 = .ok (.istore 4, 2) := by decide +kernel
theorem dX4_minutesOf_101 : decode cX4_minutesOf 101 = .ok (.iload 9, 2) := by decide +kernel
theorem dX4_minutesOf_103 : decode cX4_minutesOf 103 = .ok (.istore_n 3, 1) := by decide +kernel
theorem dX4_minutesOf_104 : decode cX4_minutesOf 104 = .ok (.aload_n 0, 1) := by decide +kernel
theorem dX4_minutesOf_105 : decode cX4_minutesOf 105 = .ok (.aload 8, 2) := by decide +kernel
theorem dX4_minutesOf_107 : decode cX4_minutesOf 107 = .ok (.invokevirtual 97, 3) := by decide +kernel
theorem dX4_minutesOf_110 : decode cX4_minutesOf 110 = .ok (.ifCond .eq 6, 3) := by decide +kernel
theorem dX4_minutesOf_113 : decode cX4_minutesOf 113 = .ok (.iinc 5 1, 3) := by decide +kernel
theorem dX4_minutesOf_116 : decode cX4_minutesOf 116 = .ok (.iinc 6 1, 3) := by decide +kernel
theorem dX4_minutesOf_119 : decode cX4_minutesOf 119 = .ok (.goto (-105), 3) := by decide +kernel
theorem dX4_minutesOf_122 : decode cX4_minutesOf 122 = .ok (.iload 4, 2) := by decide +kernel
theorem dX4_minutesOf_124 : decode cX4_minutesOf 124 = .ok (.iload_n 2, 1) := by decide +kernel
theorem dX4_minutesOf_125 : decode cX4_minutesOf 125 = .ok (.iadd, 1) := by decide +kernel
theorem dX4_minutesOf_126 : decode cX4_minutesOf 126 = .ok (.aload_n 0, 1) := by decide +kernel
theorem dX4_minutesOf_127 : decode cX4_minutesOf 127 = .ok (.getfield 9, 3) := by decide +kernel
theorem dX4_minutesOf_130 : decode cX4_minutesOf 130 = .ok (.iconst 2, 1) := by decide +kernel
theorem dX4_minutesOf_131 : decode cX4_minutesOf 131 = .ok (.iaload, 1) := by decide +kernel
theorem dX4_minutesOf_132 : decode cX4_minutesOf 132 = .ok (.imul, 1) := by decide +kernel
theorem dX4_minutesOf_133 : decode cX4_minutesOf 133 = .ok (.iload 5, 2) := by decide +kernel
theorem dX4_minutesOf_135 : decode cX4_minutesOf 135 = .ok (.aload_n 0, 1) := by decide +kernel
theorem dX4_minutesOf_136 : decode cX4_minutesOf 136 = .ok (.getfield 9, 3) := by decide +kernel
theorem dX4_minutesOf_139 : decode cX4_minutesOf 139 = .ok (.iconst 3, 1) := by decide +kernel
theorem dX4_minutesOf_140 : decode cX4_minutesOf 140 = .ok (.iaload, 1) := by decide +kernel
theorem dX4_minutesOf_141 : decode cX4_minutesOf 141 = .ok (.imul, 1) := by decide +kernel
theorem dX4_minutesOf_142 : decode cX4_minutesOf 142 = .ok (.iadd, 1) := by decide +kernel
theorem dX4_minutesOf_143 : decode cX4_minutesOf 143 = .ok (.ireturn, 1) := by decide +kernel
theorem dX4_ladderNeeded_0 : decode cX4_ladderNeeded 0 = .ok (.aload_n 1, 1) := by decide +kernel
theorem dX4_ladderNeeded_1 : decode cX4_ladderNeeded 1 = .ok (.getfield 116, 3) := by decide +kernel
theorem dX4_ladderNeeded_4 : decode cX4_ladderNeeded 4 = .ok (.ifCond .ne 6, 3) := by decide +kernel
theorem dX4_ladderNeeded_7 : decode cX4_ladderNeeded 7 = .ok (.bipush (-6), 2) := by decide +kernel
theorem dX4_ladderNeeded_9 : decode cX4_ladderNeeded 9 = .ok (.ireturn, 1) := by decide +kernel
theorem dX4_ladderNeeded_10 : decode cX4_ladderNeeded 10 = .ok (.bipush (-6), 2) := by decide +kernel
theorem dX4_ladderNeeded_12 : decode cX4_ladderNeeded 12 = .ok (.istore_n 2, 1) := by decide +kernel
theorem dX4_ladderNeeded_13 : decode cX4_ladderNeeded 13 = .ok (.bipush 31, 2) := by decide +kernel
theorem dX4_ladderNeeded_15 : decode cX4_ladderNeeded 15 = .ok (.istore_n 3, 1) := by decide +kernel
theorem dX4_ladderNeeded_16 : decode cX4_ladderNeeded 16 = .ok (.iconst 0, 1) := by decide +kernel
theorem dX4_ladderNeeded_17 : decode cX4_ladderNeeded 17 = .ok (.istore 4, 2) := by decide +kernel
theorem dX4_ladderNeeded_19 : decode cX4_ladderNeeded 19 = .ok (.iload 4, 2) := by decide +kernel
theorem dX4_ladderNeeded_21 : decode cX4_ladderNeeded 21 = .ok (.aload_n 0, 1) := by decide +kernel
theorem dX4_ladderNeeded_22 : decode cX4_ladderNeeded 22 = .ok (.getfield 42, 3) := by decide +kernel
theorem dX4_ladderNeeded_25 : decode cX4_ladderNeeded 25 = .ok (.if_icmp .ge 45, 3) := by decide +kernel
theorem dX4_ladderNeeded_28 : decode cX4_ladderNeeded 28 = .ok (.aload_n 0, 1) := by decide +kernel
theorem dX4_ladderNeeded_29 : decode cX4_ladderNeeded 29 = .ok (.getfield 21, 3) := by decide +kernel
theorem dX4_ladderNeeded_32 : decode cX4_ladderNeeded 32 = .ok (.iload 4, 2) := by decide +kernel
theorem dX4_ladderNeeded_34 : decode cX4_ladderNeeded 34 = .ok (.iaload, 1) := by decide +kernel
theorem dX4_ladderNeeded_35 : decode cX4_ladderNeeded 35 = .ok (.aload_n 1, 1) := by decide +kernel
theorem dX4_ladderNeeded_36 : decode cX4_ladderNeeded 36 = .ok (.getfield 116, 3) := by decide +kernel
theorem dX4_ladderNeeded_39 : decode cX4_ladderNeeded 39 = .ok (.if_icmp .lt 25, 3) := by decide +kernel
theorem dX4_ladderNeeded_42 : decode cX4_ladderNeeded 42 = .ok (.aload_n 0, 1) := by decide +kernel
theorem dX4_ladderNeeded_43 : decode cX4_ladderNeeded 43 = .ok (.getfield 21, 3) := by decide +kernel
theorem dX4_ladderNeeded_46 : decode cX4_ladderNeeded 46 = .ok (.iload 4, 2) := by decide +kernel
theorem dX4_ladderNeeded_48 : decode cX4_ladderNeeded 48 = .ok (.iaload, 1) := by decide +kernel
theorem dX4_ladderNeeded_49 : decode cX4_ladderNeeded 49 = .ok (.iload_n 3, 1) := by decide +kernel
theorem dX4_ladderNeeded_50 : decode cX4_ladderNeeded 50 = .ok (.if_icmp .ge 14, 3) := by decide +kernel
theorem dX4_ladderNeeded_53 : decode cX4_ladderNeeded 53 = .ok (.iload 4, 2) := by decide +kernel
theorem dX4_ladderNeeded_55 : decode cX4_ladderNeeded 55 = .ok (.istore_n 2, 1) := by decide +kernel
theorem dX4_ladderNeeded_56 : decode cX4_ladderNeeded 56 = .ok (.aload_n 0, 1) := by decide +kernel
theorem dX4_ladderNeeded_57 : decode cX4_ladderNeeded 57 = .ok (.getfield 21, 3) := by decide +kernel
theorem dX4_ladderNeeded_60 : decode cX4_ladderNeeded 60 = .ok (.iload 4, 2) := by decide +kernel
theorem dX4_ladderNeeded_62 : decode cX4_ladderNeeded 62 = .ok (.iaload, 1) := by decide +kernel
theorem dX4_ladderNeeded_63 : decode cX4_ladderNeeded 63 = .ok (.istore_n 3, 1) := by decide +kernel
theorem dX4_ladderNeeded_64 : decode cX4_ladderNeeded 64 = .ok (.iinc 4 1, 3) := by decide +kernel
theorem dX4_ladderNeeded_67 : decode cX4_ladderNeeded 67 = .ok (.goto (-48), 3) := by decide +kernel
theorem dX4_ladderNeeded_70 : decode cX4_ladderNeeded 70 = .ok (.iload_n 2, 1) := by decide +kernel
theorem dX4_ladderNeeded_71 : decode cX4_ladderNeeded 71 = .ok (.ireturn, 1) := by decide +kernel
set_option maxRecDepth 20000 in
theorem ggX4_canBeWound_X4_ladderNeeded : GoodIn wsX4_canBeWound wsX4_ladderNeeded := goodIn_r _ [6, 1, 7, 8, 9, 10, 11, 12, 13, 14, 15, 16, 17, 18, 19, 20, 21, 22, 23] (by decide +kernel) (by decide +kernel)
set_option maxRecDepth 20000 in
theorem gX4_canBeWound_X4_ladderNeeded : GoodIn wsX4_canBeWound (wsV RX4 112 RX4 yX4_ladderNeeded wsX4_ladderNeeded) := goodIn_app (goodIn_of _ (by decide +kernel)) ggX4_canBeWound_X4_ladderNeeded
theorem dX4_canBeWound_0 : decode cX4_canBeWound 0 = .ok (.aload_n 1, 1) := by decide +kernel
theorem dX4_canBeWound_1 : decode cX4_canBeWound 1 = .ok (.getfield 116, 3) := by decide +kernel
theorem dX4_canBeWound_4 : decode cX4_canBeWound 4 = .ok (.ifCond .eq 13, 3) := by decide +kernel
theorem dX4_canBeWound_7 : decode cX4_canBeWound 7 = .ok (.aload_n 0, 1) := by decide +kernel
theorem dX4_canBeWound_8 : decode cX4_canBeWound 8 = .ok (.aload_n 1, 1) := by decide +kernel
theorem dX4_canBeWound_9 : decode cX4_canBeWound 9 = .ok (.invokevirtual 112, 3) := by decide +kernel
theorem dX4_canBeWound_12 : decode cX4_canBeWound 12 = .ok (.bipush (-6), 2) := by decide +kernel
theorem dX4_canBeWound_14 : decode cX4_canBeWound 14 = .ok (.if_icmp .eq 7, 3) := by decide +kernel
theorem dX4_canBeWound_17 : decode cX4_canBeWound 17 = .ok (.iconst 1, 1) := by decide +kernel
theorem dX4_canBeWound_18 : decode cX4_canBeWound 18 = .ok (.goto 4, 3) := by decide +kernel
theorem dX4_canBeWound_21 : decode cX4_canBeWound 21 = .ok (.iconst 0, 1) := by decide +kernel
theorem dX4_canBeWound_22 : decode cX4_canBeWound 22 = .ok (.ireturn, 1) := by decide +kernel
theorem dX4_numberThatGo_0 : decode cX4_numberThatGo 0 = .ok (.iconst 0, 1) := by decide +kernel
theorem dX4_numberThatGo_1 : decode cX4_numberThatGo 1 = .ok (.istore_n 1, 1) := by decide +kernel
theorem dX4_numberThatGo_2 : decode cX4_numberThatGo 2 = .ok (.iconst 0, 1) := by decide +kernel
theorem dX4_numberThatGo_3 : decode cX4_numberThatGo 3 = .ok (.istore_n 2, 1) := by decide +kernel
theorem dX4_numberThatGo_4 : decode cX4_numberThatGo 4 = .ok (.iload_n 2, 1) := by decide +kernel
theorem dX4_numberThatGo_5 : decode cX4_numberThatGo 5 = .ok (.aload_n 0, 1) := by decide +kernel
theorem dX4_numberThatGo_6 : decode cX4_numberThatGo 6 = .ok (.getfield 34, 3) := by decide +kernel
theorem dX4_numberThatGo_9 : decode cX4_numberThatGo 9 = .ok (.if_icmp .ge 24, 3) := by decide +kernel
theorem dX4_numberThatGo_12 : decode cX4_numberThatGo 12 = .ok (.aload_n 0, 1) := by decide +kernel
theorem dX4_numberThatGo_13 : decode cX4_numberThatGo 13 = .ok (.getfield 17, 3) := by decide +kernel
theorem dX4_numberThatGo_16 : decode cX4_numberThatGo 16 = .ok (.iload_n 2, 1) := by decide +kernel
theorem dX4_numberThatGo_17 : decode cX4_numberThatGo 17 = .ok (.aaload, 1) := by decide +kernel
theorem dX4_numberThatGo_18 : decode cX4_numberThatGo 18 = .ok (.getfield 77, 3) := by decide +kernel
theorem dX4_numberThatGo_21 : decode cX4_numberThatGo 21 = .ok (.ifCond .eq 6, 3) := by decide +kernel
theorem dX4_numberThatGo_24 : decode cX4_numberThatGo 24 = .ok (.iinc 1 1, 3) := by decide +kernel
theorem dX4_numberThatGo_27 : decode cX4_numberThatGo 27 = .ok (.iinc 2 1, 3) := by decide +kernel
theorem dX4_numberThatGo_30 : decode cX4_numberThatGo 30 = .ok (.goto (-26), 3) := by decide +kernel
theorem dX4_numberThatGo_33 : decode cX4_numberThatGo 33 = .ok (.iload_n 1, 1) := by decide +kernel
theorem dX4_numberThatGo_34 : decode cX4_numberThatGo 34 = .ok (.ireturn, 1) := by decide +kernel
theorem dX4_setOfStill_0 : decode cX4_setOfStill 0 = .ok (.iconst 0, 1) := by decide +kernel
theorem dX4_setOfStill_1 : decode cX4_setOfStill 1 = .ok (.istore_n 1, 1) := by decide +kernel
theorem dX4_setOfStill_2 : decode cX4_setOfStill 2 = .ok (.iconst 0, 1) := by decide +kernel
theorem dX4_setOfStill_3 : decode cX4_setOfStill 3 = .ok (.istore_n 2, 1) := by decide +kernel
theorem dX4_setOfStill_4 : decode cX4_setOfStill 4 = .ok (.iload_n 2, 1) := by decide +kernel
theorem dX4_setOfStill_5 : decode cX4_setOfStill 5 = .ok (.aload_n 0, 1) := by decide +kernel
theorem dX4_setOfStill_6 : decode cX4_setOfStill 6 = .ok (.getfield 34, 3) := by decide +kernel
theorem dX4_setOfStill_9 : decode cX4_setOfStill 9 = .ok (.if_icmp .ge 27, 3) := by decide +kernel
theorem dX4_setOfStill_12 : decode cX4_setOfStill 12 = .ok (.aload_n 0, 1) := by decide +kernel
theorem dX4_setOfStill_13 : decode cX4_setOfStill 13 = .ok (.getfield 17, 3) := by decide +kernel
theorem dX4_setOfStill_16 : decode cX4_setOfStill 16 = .ok (.iload_n 2, 1) := by decide +kernel
theorem dX4_setOfStill_17 : decode cX4_setOfStill 17 = .ok (.aaload, 1) := by decide +kernel
theorem dX4_setOfStill_18 : decode cX4_setOfStill 18 = .ok (.getfield 77, 3) := by decide +kernel
theorem dX4_setOfStill_21 : decode cX4_setOfStill 21 = .ok (.ifCond .ne 9, 3) := by decide +kernel
theorem dX4_setOfStill_24 : decode cX4_setOfStill 24 = .ok (.iload_n 1, 1) := by decide +kernel
theorem dX4_setOfStill_25 : decode cX4_setOfStill 25 = .ok (.iconst 1, 1) := by decide +kernel
theorem dX4_setOfStill_26 : decode cX4_setOfStill 26 = .ok (.iload_n 2, 1) := by decide +kernel
theorem dX4_setOfStill_27 : decode cX4_setOfStill 27 = .ok (.ishl, 1) := by decide +kernel
theorem dX4_setOfStill_28 : decode cX4_setOfStill 28 = .ok (.ior, 1) := by decide +kernel
theorem dX4_setOfStill_29 : decode cX4_setOfStill 29 = .ok (.istore_n 1, 1) := by decide +kernel
theorem dX4_setOfStill_30 : decode cX4_setOfStill 30 = .ok (.iinc 2 1, 3) := by decide +kernel
theorem dX4_setOfStill_33 : decode cX4_setOfStill 33 = .ok (.goto (-29), 3) := by decide +kernel
theorem dX4_setOfStill_36 : decode cX4_setOfStill 36 = .ok (.iload_n 1, 1) := by decide +kernel
theorem dX4_setOfStill_37 : decode cX4_setOfStill 37 = .ok (.ireturn, 1) := by decide +kernel
set_option maxRecDepth 20000 in
theorem ggX4_numberOffBeyondTold_X0_isOffBeyond : GoodIn wsX4_numberOffBeyondTold wsX0_isOffBeyond := goodIn_r _ [8, 9, 10, 11, 12, 13, 21, 22, 23, 24, 25, 26, 27, 28] (by decide +kernel) (by decide +kernel)
set_option maxRecDepth 20000 in
theorem gX4_numberOffBeyondTold_X0_isOffBeyond : GoodIn wsX4_numberOffBeyondTold (wsV RX4 119 RX0 yX0_isOffBeyond wsX0_isOffBeyond) := goodIn_app (goodIn_of _ (by decide +kernel)) ggX4_numberOffBeyondTold_X0_isOffBeyond
theorem dX4_numberOffBeyondTold_0 : decode cX4_numberOffBeyondTold 0 = .ok (.iconst 0, 1) := by decide +kernel
theorem dX4_numberOffBeyondTold_1 : decode cX4_numberOffBeyondTold 1 = .ok (.istore_n 1, 1) := by decide +kernel
theorem dX4_numberOffBeyondTold_2 : decode cX4_numberOffBeyondTold 2 = .ok (.iconst 0, 1) := by decide +kernel
theorem dX4_numberOffBeyondTold_3 : decode cX4_numberOffBeyondTold 3 = .ok (.istore_n 2, 1) := by decide +kernel
theorem dX4_numberOffBeyondTold_4 : decode cX4_numberOffBeyondTold 4 = .ok (.iload_n 2, 1) := by decide +kernel
theorem dX4_numberOffBeyondTold_5 : decode cX4_numberOffBeyondTold 5 = .ok (.aload_n 0, 1) := by decide +kernel
theorem dX4_numberOffBeyondTold_6 : decode cX4_numberOffBeyondTold 6 = .ok (.getfield 34, 3) := by decide +kernel
theorem dX4_numberOffBeyondTold_9 : decode cX4_numberOffBeyondTold 9 = .ok (.if_icmp .ge 30, 3) := by decide +kernel
theorem dX4_numberOffBeyondTold_12 : decode cX4_numberOffBeyondTold 12 = .ok (.aload_n 0, 1) := by decide +kernel
theorem dX4_numberOffBeyondTold_13 : decode cX4_numberOffBeyondTold 13 = .ok (.getfield 17, 3) := by decide +kernel
theorem dX4_numberOffBeyondTold_16 : decode cX4_numberOffBeyondTold 16 = .ok (.iload_n 2, 1) := by decide +kernel
theorem dX4_numberOffBeyondTold_17 : decode cX4_numberOffBeyondTold 17 = .ok (.aaload, 1) := by decide +kernel
theorem dX4_numberOffBeyondTold_18 : decode cX4_numberOffBeyondTold 18 = .ok (.aload_n 0, 1) := by decide +kernel
theorem dX4_numberOffBeyondTold_19 : decode cX4_numberOffBeyondTold 19 = .ok (.getfield 9, 3) := by decide +kernel
theorem dX4_numberOffBeyondTold_22 : decode cX4_numberOffBeyondTold 22 = .ok (.iconst 0, 1) := by decide +kernel
theorem dX4_numberOffBeyondTold_23 : decode cX4_numberOffBeyondTold 23 = .ok (.iaload, 1) := by decide +kernel
theorem dX4_numberOffBeyondTold_24 : decode cX4_numberOffBeyondTold 24 = .ok (.invokevirtual 119, 3) := by decide +kernel
theorem dX4_numberOffBeyondTold_27 : decode cX4_numberOffBeyondTold 27 = .ok (.ifCond .eq 6, 3) := by decide +kernel
theorem dX4_numberOffBeyondTold_30 : decode cX4_numberOffBeyondTold 30 = .ok (.iinc 1 1, 3) := by decide +kernel
theorem dX4_numberOffBeyondTold_33 : decode cX4_numberOffBeyondTold 33 = .ok (.iinc 2 1, 3) := by decide +kernel
theorem dX4_numberOffBeyondTold_36 : decode cX4_numberOffBeyondTold 36 = .ok (.goto (-32), 3) := by decide +kernel
theorem dX4_numberOffBeyondTold_39 : decode cX4_numberOffBeyondTold 39 = .ok (.iload_n 1, 1) := by decide +kernel
theorem dX4_numberOffBeyondTold_40 : decode cX4_numberOffBeyondTold 40 = .ok (.ireturn, 1) := by decide +kernel
set_option maxRecDepth 20000 in
theorem ggX4_numberThatCannotBeWound_X4_canBeWound : GoodIn wsX4_numberThatCannotBeWound wsX4_canBeWound := goodIn_r _ [7, 8, 9, 10, 11, 6, 12, 13, 14, 22, 23, 24, 25, 26, 27, 28, 29, 15, 16, 17, 18, 19, 20, 21] (by decide +kernel) (by decide +kernel)
set_option maxRecDepth 20000 in
theorem gX4_numberThatCannotBeWound_X4_canBeWound : GoodIn wsX4_numberThatCannotBeWound (wsV RX4 97 RX4 yX4_canBeWound wsX4_canBeWound) := goodIn_app (goodIn_of _ (by decide +kernel)) ggX4_numberThatCannotBeWound_X4_canBeWound
theorem dX4_numberThatCannotBeWound_0 : decode cX4_numberThatCannotBeWound 0 = .ok (.iconst 0, 1) := by decide +kernel
theorem dX4_numberThatCannotBeWound_1 : decode cX4_numberThatCannotBeWound 1 = .ok (.istore_n 1, 1) := by decide +kernel
theorem dX4_numberThatCannotBeWound_2 : decode cX4_numberThatCannotBeWound 2 = .ok (.iconst 0, 1) := by decide +kernel
theorem dX4_numberThatCannotBeWound_3 : decode cX4_numberThatCannotBeWound 3 = .ok (.istore_n 2, 1) := by decide +kernel
theorem dX4_numberThatCannotBeWound_4 : decode cX4_numberThatCannotBeWound 4 = .ok (.iload_n 2, 1) := by decide +kernel
theorem dX4_numberThatCannotBeWound_5 : decode cX4_numberThatCannotBeWound 5 = .ok (.aload_n 0, 1) := by decide +kernel
theorem dX4_numberThatCannotBeWound_6 : decode cX4_numberThatCannotBeWound 6 = .ok (.getfield 34, 3) := by decide +kernel
theorem dX4_numberThatCannotBeWound_9 : decode cX4_numberThatCannotBeWound 9 = .ok (.if_icmp .ge 25, 3) := by decide +kernel
theorem dX4_numberThatCannotBeWound_12 : decode cX4_numberThatCannotBeWound 12 = .ok (.aload_n 0, 1) := by decide +kernel
theorem dX4_numberThatCannotBeWound_13 : decode cX4_numberThatCannotBeWound 13 = .ok (.aload_n 0, 1) := by decide +kernel
theorem dX4_numberThatCannotBeWound_14 : decode cX4_numberThatCannotBeWound 14 = .ok (.getfield 17, 3) := by decide +kernel
theorem dX4_numberThatCannotBeWound_17 : decode cX4_numberThatCannotBeWound 17 = .ok (.iload_n 2, 1) := by decide +kernel
theorem dX4_numberThatCannotBeWound_18 : decode cX4_numberThatCannotBeWound 18 = .ok (.aaload, 1) := by decide +kernel
theorem dX4_numberThatCannotBeWound_19 : decode cX4_numberThatCannotBeWound 19 = .ok (.invokevirtual 97, 3) := by decide +kernel
theorem dX4_numberThatCannotBeWound_22 : decode cX4_numberThatCannotBeWound 22 = .ok (.ifCond .ne 6, 3) := by decide +kernel
theorem dX4_numberThatCannotBeWound_25 : decode cX4_numberThatCannotBeWound 25 = .ok (.iinc 1 1, 3) := by decide +kernel
theorem dX4_numberThatCannotBeWound_28 : decode cX4_numberThatCannotBeWound 28 = .ok (.iinc 2 1, 3) := by decide +kernel
theorem dX4_numberThatCannotBeWound_31 : decode cX4_numberThatCannotBeWound 31 = .ok (.goto (-27), 3) := by decide +kernel
theorem dX4_numberThatCannotBeWound_34 : decode cX4_numberThatCannotBeWound 34 = .ok (.iload_n 1, 1) := by decide +kernel
theorem dX4_numberThatCannotBeWound_35 : decode cX4_numberThatCannotBeWound 35 = .ok (.ireturn, 1) := by decide +kernel
theorem dX4_timesWoundInAll_0 : decode cX4_timesWoundInAll 0 = .ok (.iconst 0, 1) := by decide +kernel
theorem dX4_timesWoundInAll_1 : decode cX4_timesWoundInAll 1 = .ok (.istore_n 1, 1) := by decide +kernel
theorem dX4_timesWoundInAll_2 : decode cX4_timesWoundInAll 2 = .ok (.iconst 0, 1) := by decide +kernel
theorem dX4_timesWoundInAll_3 : decode cX4_timesWoundInAll 3 = .ok (.istore_n 2, 1) := by decide +kernel
theorem dX4_timesWoundInAll_4 : decode cX4_timesWoundInAll 4 = .ok (.iload_n 2, 1) := by decide +kernel
theorem dX4_timesWoundInAll_5 : decode cX4_timesWoundInAll 5 = .ok (.aload_n 0, 1) := by decide +kernel
theorem dX4_timesWoundInAll_6 : decode cX4_timesWoundInAll 6 = .ok (.getfield 34, 3) := by decide +kernel
theorem dX4_timesWoundInAll_9 : decode cX4_timesWoundInAll 9 = .ok (.if_icmp .ge 21, 3) := by decide +kernel
theorem dX4_timesWoundInAll_12 : decode cX4_timesWoundInAll 12 = .ok (.iload_n 1, 1) := by decide +kernel
theorem dX4_timesWoundInAll_13 : decode cX4_timesWoundInAll 13 = .ok (.aload_n 0, 1) := by decide +kernel
theorem dX4_timesWoundInAll_14 : decode cX4_timesWoundInAll 14 = .ok (.getfield 17, 3) := by decide +kernel
theorem dX4_timesWoundInAll_17 : decode cX4_timesWoundInAll 17 = .ok (.iload_n 2, 1) := by decide +kernel
theorem dX4_timesWoundInAll_18 : decode cX4_timesWoundInAll 18 = .ok (.aaload, 1) := by decide +kernel
theorem dX4_timesWoundInAll_19 : decode cX4_timesWoundInAll 19 = .ok (.getfield 122, 3) := by decide +kernel
theorem dX4_timesWoundInAll_22 : decode cX4_timesWoundInAll 22 = .ok (.iadd, 1) := by decide +kernel
theorem dX4_timesWoundInAll_23 : decode cX4_timesWoundInAll 23 = .ok (.istore_n 1, 1) := by decide +kernel
theorem dX4_timesWoundInAll_24 : decode cX4_timesWoundInAll 24 = .ok (.iinc 2 1, 3) := by decide +kernel
theorem dX4_timesWoundInAll_27 : decode cX4_timesWoundInAll 27 = .ok (.goto (-23), 3) := by decide +kernel
theorem dX4_timesWoundInAll_30 : decode cX4_timesWoundInAll 30 = .ok (.iload_n 1, 1) := by decide +kernel
theorem dX4_timesWoundInAll_31 : decode cX4_timesWoundInAll 31 = .ok (.ireturn, 1) := by decide +kernel
set_option maxRecDepth 20000 in
theorem ggX4_rungsOutOfReach_X4_canBeWound : GoodIn wsX4_rungsOutOfReach wsX4_canBeWound := goodIn_r _ [12, 3, 13, 14, 15, 11, 16, 17, 18, 26, 27, 28, 29, 30, 31, 32, 33, 19, 20, 21, 22, 23, 24, 25] (by decide +kernel) (by decide +kernel)
set_option maxRecDepth 20000 in
theorem gX4_rungsOutOfReach_X4_canBeWound : GoodIn wsX4_rungsOutOfReach (wsV RX4 97 RX4 yX4_canBeWound wsX4_canBeWound) := goodIn_app (goodIn_of _ (by decide +kernel)) ggX4_rungsOutOfReach_X4_canBeWound
theorem dX4_rungsOutOfReach_0 : decode cX4_rungsOutOfReach 0 = .ok (.iconst 0, 1) := by decide +kernel
theorem dX4_rungsOutOfReach_1 : decode cX4_rungsOutOfReach 1 = .ok (.istore_n 1, 1) := by decide +kernel
theorem dX4_rungsOutOfReach_2 : decode cX4_rungsOutOfReach 2 = .ok (.iconst 0, 1) := by decide +kernel
theorem dX4_rungsOutOfReach_3 : decode cX4_rungsOutOfReach 3 = .ok (.istore_n 2, 1) := by decide +kernel
theorem dX4_rungsOutOfReach_4 : decode cX4_rungsOutOfReach 4 = .ok (.iload_n 2, 1) := by decide +kernel
theorem dX4_rungsOutOfReach_5 : decode cX4_rungsOutOfReach 5 = .ok (.aload_n 0, 1) := by decide +kernel
theorem dX4_rungsOutOfReach_6 : decode cX4_rungsOutOfReach 6 = .ok (.getfield 34, 3) := by decide +kernel
theorem dX4_rungsOutOfReach_9 : decode cX4_rungsOutOfReach 9 = .ok (.if_icmp .ge 36, 3) := by decide +kernel
theorem dX4_rungsOutOfReach_12 : decode cX4_rungsOutOfReach 12 = .ok (.aload_n 0, 1) := by decide +kernel
theorem dX4_rungsOutOfReach_13 : decode cX4_rungsOutOfReach 13 = .ok (.aload_n 0, 1) := by decide +kernel
theorem dX4_rungsOutOfReach_14 : decode cX4_rungsOutOfReach 14 = .ok (.getfield 17, 3) := by decide +kernel
theorem dX4_rungsOutOfReach_17 : decode cX4_rungsOutOfReach 17 = .ok (.iload_n 2, 1) := by decide +kernel
theorem dX4_rungsOutOfReach_18 : decode cX4_rungsOutOfReach 18 = .ok (.aaload, 1) := by decide +kernel
theorem dX4_rungsOutOfReach_19 : decode cX4_rungsOutOfReach 19 = .ok (.invokevirtual 97, 3) := by decide +kernel
theorem dX4_rungsOutOfReach_22 : decode cX4_rungsOutOfReach 22 = .ok (.ifCond .ne 17, 3) := by decide +kernel
theorem dX4_rungsOutOfReach_25 : decode cX4_rungsOutOfReach 25 = .ok (.iload_n 1, 1) := by decide +kernel
theorem dX4_rungsOutOfReach_26 : decode cX4_rungsOutOfReach 26 = .ok (.aload_n 0, 1) := by decide +kernel
theorem dX4_rungsOutOfReach_27 : decode cX4_rungsOutOfReach 27 = .ok (.getfield 17, 3) := by decide +kernel
theorem dX4_rungsOutOfReach_30 : decode cX4_rungsOutOfReach 30 = .ok (.iload_n 2, 1) := by decide +kernel
theorem dX4_rungsOutOfReach_31 : decode cX4_rungsOutOfReach 31 = .ok (.aaload, 1) := by decide +kernel
theorem dX4_rungsOutOfReach_32 : decode cX4_rungsOutOfReach 32 = .ok (.getfield 116, 3) := by decide +kernel
theorem dX4_rungsOutOfReach_35 : decode cX4_rungsOutOfReach 35 = .ok (.invokestatic 125, 3) := by decide +kernel
theorem dX4_rungsOutOfReach_38 : decode cX4_rungsOutOfReach 38 = .ok (.istore_n 1, 1) := by decide +kernel
theorem dX4_rungsOutOfReach_39 : decode cX4_rungsOutOfReach 39 = .ok (.iinc 2 1, 3) := by decide +kernel
theorem dX4_rungsOutOfReach_42 : decode cX4_rungsOutOfReach 42 = .ok (.goto (-38), 3) := by decide +kernel
theorem dX4_rungsOutOfReach_45 : decode cX4_rungsOutOfReach 45 = .ok (.iload_n 1, 1) := by decide +kernel
theorem dX4_rungsOutOfReach_46 : decode cX4_rungsOutOfReach 46 = .ok (.ireturn, 1) := by decide +kernel
set_option maxRecDepth 20000 in
theorem ggX4_daysUntilOff_X4_hasClock : GoodIn wsX4_daysUntilOff wsX4_hasClock := goodIn_r _ [7, 8, 33, 34, 35, 36, 37, 38, 39] (by decide +kernel) (by decide +kernel)
set_option maxRecDepth 20000 in
theorem gX4_daysUntilOff_X4_hasClock : GoodIn wsX4_daysUntilOff (wsV RX4 62 RX4 yX4_hasClock wsX4_hasClock) := goodIn_app (goodIn_of _ (by decide +kernel)) ggX4_daysUntilOff_X4_hasClock
set_option maxRecDepth 20000 in
theorem ggX4_daysUntilOff_X0_daysUntilOff : GoodIn wsX4_daysUntilOff wsX0_daysUntilOff := goodIn_r _ [13, 14, 15, 16, 17, 18, 19, 20, 21, 22, 23, 24, 25, 12, 26, 27, 28, 29, 30, 31, 32, 40, 41, 42, 43, 44, 45, 46, 47] (by decide +kernel) (by decide +kernel)
set_option maxRecDepth 20000 in
theorem gX4_daysUntilOff_X0_daysUntilOff : GoodIn wsX4_daysUntilOff (wsV RX4 129 RX0 yX0_daysUntilOff wsX0_daysUntilOff) := goodIn_app (goodIn_of _ (by decide +kernel)) ggX4_daysUntilOff_X0_daysUntilOff
theorem dX4_daysUntilOff_0 : decode cX4_daysUntilOff 0 = .ok (.aload_n 0, 1) := by decide +kernel
theorem dX4_daysUntilOff_1 : decode cX4_daysUntilOff 1 = .ok (.iload_n 1, 1) := by decide +kernel
theorem dX4_daysUntilOff_2 : decode cX4_daysUntilOff 2 = .ok (.invokevirtual 62, 3) := by decide +kernel
theorem dX4_daysUntilOff_5 : decode cX4_daysUntilOff 5 = .ok (.ifCond .eq 27, 3) := by decide +kernel
theorem dX4_daysUntilOff_8 : decode cX4_daysUntilOff 8 = .ok (.aload_n 0, 1) := by decide +kernel
theorem dX4_daysUntilOff_9 : decode cX4_daysUntilOff 9 = .ok (.getfield 17, 3) := by decide +kernel
theorem dX4_daysUntilOff_12 : decode cX4_daysUntilOff 12 = .ok (.iload_n 1, 1) := by decide +kernel
theorem dX4_daysUntilOff_13 : decode cX4_daysUntilOff 13 = .ok (.aaload, 1) := by decide +kernel
theorem dX4_daysUntilOff_14 : decode cX4_daysUntilOff 14 = .ok (.aload_n 0, 1) := by decide +kernel
theorem dX4_daysUntilOff_15 : decode cX4_daysUntilOff 15 = .ok (.getfield 9, 3) := by decide +kernel
theorem dX4_daysUntilOff_18 : decode cX4_daysUntilOff 18 = .ok (.iconst 0, 1) := by decide +kernel
theorem dX4_daysUntilOff_19 : decode cX4_daysUntilOff 19 = .ok (.iaload, 1) := by decide +kernel
theorem dX4_daysUntilOff_20 : decode cX4_daysUntilOff 20 = .ok (.aload_n 0, 1) := by decide +kernel
theorem dX4_daysUntilOff_21 : decode cX4_daysUntilOff 21 = .ok (.getfield 9, 3) := by decide +kernel
theorem dX4_daysUntilOff_24 : decode cX4_daysUntilOff 24 = .ok (.iconst 1, 1) := by decide +kernel
theorem dX4_daysUntilOff_25 : decode cX4_daysUntilOff 25 = .ok (.iaload, 1) := by decide +kernel
theorem dX4_daysUntilOff_26 : decode cX4_daysUntilOff 26 = .ok (.invokevirtual 129, 3) := by decide +kernel
theorem dX4_daysUntilOff_29 : decode cX4_daysUntilOff 29 = .ok (.goto 4, 3) := by decide +kernel
theorem dX4_daysUntilOff_32 : decode cX4_daysUntilOff 32 = .ok (.iconst (-1), 1) := by decide +kernel
theorem dX4_daysUntilOff_33 : decode cX4_daysUntilOff 33 = .ok (.ireturn, 1) := by decide +kernel
set_option maxRecDepth 20000 in
theorem ggX4_rankOf_X4_daysUntilOff : GoodIn wsX4_rankOf wsX4_daysUntilOff := goodIn_r _ [6, 7, 8, 9, 10, 11, 5, 12, 1, 13, 14, 15, 16, 17, 18, 19, 20, 21, 22, 23, 24, 25, 26, 27, 28, 29, 30, 31, 32, 33, 34, 35, 36, 37, 38, 39, 40, 41, 42, 43, 44, 45, 46, 47, 48, 49, 50, 51] (by decide +kernel) (by decide +kernel)
set_option maxRecDepth 20000 in
theorem gX4_rankOf_X4_daysUntilOff : GoodIn wsX4_rankOf (wsV RX4 132 RX4 yX4_daysUntilOff wsX4_daysUntilOff) := goodIn_app (goodIn_of _ (by decide +kernel)) ggX4_rankOf_X4_daysUntilOff
theorem dX4_rankOf_0 : decode cX4_rankOf 0 = .ok (.aload_n 0, 1) := by decide +kernel
theorem dX4_rankOf_1 : decode cX4_rankOf 1 = .ok (.iload_n 1, 1) := by decide +kernel
theorem dX4_rankOf_2 : decode cX4_rankOf 2 = .ok (.invokevirtual 132, 3) := by decide +kernel
theorem dX4_rankOf_5 : decode cX4_rankOf 5 = .ok (.istore_n 2, 1) := by decide +kernel
theorem dX4_rankOf_6 : decode cX4_rankOf 6 = .ok (.iconst 0, 1) := by decide +kernel
theorem dX4_rankOf_7 : decode cX4_rankOf 7 = .ok (.istore_n 3, 1) := by decide +kernel
theorem dX4_rankOf_8 : decode cX4_rankOf 8 = .ok (.iconst 0, 1) := by decide +kernel
theorem dX4_rankOf_9 : decode cX4_rankOf 9 = .ok (.istore 4, 2) := by decide +kernel
theorem dX4_rankOf_11 : decode cX4_rankOf 11 = .ok (.iload 4, 2) := by decide +kernel
theorem dX4_rankOf_13 : decode cX4_rankOf 13 = .ok (.aload_n 0, 1) := by decide +kernel
theorem dX4_rankOf_14 : decode cX4_rankOf 14 = .ok (.getfield 34, 3) := by decide +kernel
theorem dX4_rankOf_17 : decode cX4_rankOf 17 = .ok (.if_icmp .ge 38, 3) := by decide +kernel
theorem dX4_rankOf_20 : decode cX4_rankOf 20 = .ok (.aload_n 0, 1) := by decide +kernel
theorem dX4_rankOf_21 : decode cX4_rankOf 21 = .ok (.iload 4, 2) := by decide +kernel
theorem dX4_rankOf_23 : decode cX4_rankOf 23 = .ok (.invokevirtual 132, 3) := by decide +kernel
theorem dX4_rankOf_26 : decode cX4_rankOf 26 = .ok (.istore 5, 2) := by decide +kernel
theorem dX4_rankOf_28 : decode cX4_rankOf 28 = .ok (.iload 5, 2) := by decide +kernel
theorem dX4_rankOf_30 : decode cX4_rankOf 30 = .ok (.iload_n 2, 1) := by decide +kernel
theorem dX4_rankOf_31 : decode cX4_rankOf 31 = .ok (.if_icmp .lt 15, 3) := by decide +kernel
theorem dX4_rankOf_34 : decode cX4_rankOf 34 = .ok (.iload 5, 2) := by decide +kernel
theorem dX4_rankOf_36 : decode cX4_rankOf 36 = .ok (.iload_n 2, 1) := by decide +kernel
theorem dX4_rankOf_37 : decode cX4_rankOf 37 = .ok (.if_icmp .ne 12, 3) := by decide +kernel
theorem dX4_rankOf_40 : decode cX4_rankOf 40 = .ok (.iload 4, 2) := by decide +kernel
theorem dX4_rankOf_42 : decode cX4_rankOf 42 = .ok (.iload_n 1, 1) := by decide +kernel
theorem dX4_rankOf_43 : decode cX4_rankOf 43 = .ok (.if_icmp .ge 6, 3) := by decide +kernel
theorem dX4_rankOf_46 : decode cX4_rankOf 46 = .ok (.iinc 3 1, 3) := by decide +kernel
theorem dX4_rankOf_49 : decode cX4_rankOf 49 = .ok (.iinc 4 1, 3) := by decide +kernel
theorem dX4_rankOf_52 : decode cX4_rankOf 52 = .ok (.goto (-41), 3) := by decide +kernel
theorem dX4_rankOf_55 : decode cX4_rankOf 55 = .ok (.iload_n 3, 1) := by decide +kernel
theorem dX4_rankOf_56 : decode cX4_rankOf 56 = .ok (.ireturn, 1) := by decide +kernel
set_option maxRecDepth 20000 in
theorem ggX5_init_X4_init : GoodIn wsX5_init wsX4_init := goodIn_r _ [25, 26, 2, 3, 27, 28, 29, 30, 31, 32, 33, 34, 35, 36, 37, 38, 39, 40, 59, 60, 61, 62, 63, 64, 65, 81, 82, 83, 84, 85, 86, 87, 88] (by decide +kernel) (by decide +kernel)
set_option maxRecDepth 20000 in
theorem gX5_init_X4_init : GoodIn wsX5_init (wsX4_init) := ggX5_init_X4_init
set_option maxRecDepth 20000 in
theorem ggX5_init_X1_init : GoodIn wsX5_init wsX1_init := goodIn_r _ [43, 44, 2, 3, 45, 46, 5, 6, 47, 24, 25, 26, 27, 28, 29, 30, 31, 32, 33, 34, 35, 36, 37, 38, 39, 40, 72, 73, 59, 60, 61, 62, 63, 64, 65, 81, 82, 83, 84, 85, 86, 87, 88] (by decide +kernel) (by decide +kernel)
set_option maxRecDepth 20000 in
theorem gX5_init_X1_init : GoodIn wsX5_init (wsX1_init) := ggX5_init_X1_init
set_option maxRecDepth 20000 in
theorem ggX5_init_X2_init : GoodIn wsX5_init wsX2_init := goodIn_r _ [49, 50, 2, 3, 51, 52, 53, 20, 21, 54, 55, 56, 57, 27, 58, 74, 75, 76, 77, 78, 79, 80] (by decide +kernel) (by decide +kernel)
set_option maxRecDepth 20000 in
theorem gX5_init_X2_init_n33 : GoodIn wsX5_init (wsX2_init) := ggX5_init_X2_init
set_option maxRecDepth 20000 in
theorem ggX5_init_X3_init : GoodIn wsX5_init wsX3_init := goodIn_r _ [56, 57, 2, 3, 27, 58, 79, 80] (by decide +kernel) (by decide +kernel)
set_option maxRecDepth 20000 in
theorem gX5_init_X3_init_n40 : GoodIn wsX5_init (wsX3_init) := ggX5_init_X3_init
end
section
theorem dX5_init_0 : decode cX5_init 0 = .ok (.aload_n 0, 1) := by decide +kernel
theorem dX5_init_1 : decode cX5_init 1 = .ok (.invokespecial 3, 3) := by decide +kernel
theorem dX5_init_4 : decode cX5_init 4 = .ok (.aload_n 0, 1) := by decide +kernel
theorem dX5_init_5 : decode cX5_init 5 = .ok (.new 9, 3) := by decide +kernel
theorem dX5_init_8 : decode cX5_init 8 = .ok (.dup, 1) := by decide +kernel
theorem dX5_init_9 : decode cX5_init 9 = .ok (.invokespecial 11, 3) := by decide +kernel
theorem dX5_init_12 : decode cX5_init 12 = .ok (.putfield 12, 3) := by decide +kernel
theorem dX5_init_15 : decode cX5_init 15 = .ok (.aload_n 0, 1) := by decide +kernel
theorem dX5_init_16 : decode cX5_init 16 = .ok (.new 16, 3) := by decide +kernel
theorem dX5_init_19 : decode cX5_init 19 = .ok (.dup, 1) := by decide +kernel
theorem dX5_init_20 : decode cX5_init 20 = .ok (.invokespecial 18, 3) := by decide +kernel
theorem dX5_init_23 : decode cX5_init 23 = .ok (.putfield 19, 3) := by decide +kernel
theorem dX5_init_26 : decode cX5_init 26 = .ok (.aload_n 0, 1) := by decide +kernel
theorem dX5_init_27 : decode cX5_init 27 = .ok (.iconst 2, 1) := by decide +kernel
theorem dX5_init_28 : decode cX5_init 28 = .ok (.anewarray 9, 3) := by decide +kernel
theorem dX5_init_31 : decode cX5_init 31 = .ok (.putfield 23, 3) := by decide +kernel
theorem dX5_init_34 : decode cX5_init 34 = .ok (.aload_n 0, 1) := by decide +kernel
theorem dX5_init_35 : decode cX5_init 35 = .ok (.iconst 2, 1) := by decide +kernel
theorem dX5_init_36 : decode cX5_init 36 = .ok (.newarray .boolean, 2) := by decide +kernel
theorem dX5_init_38 : decode cX5_init 38 = .ok (.putfield 27, 3) := by decide +kernel
theorem dX5_init_41 : decode cX5_init 41 = .ok (.aload_n 0, 1) := by decide +kernel
theorem dX5_init_42 : decode cX5_init 42 = .ok (.new 31, 3) := by decide +kernel
theorem dX5_init_45 : decode cX5_init 45 = .ok (.dup, 1) := by decide +kernel
theorem dX5_init_46 : decode cX5_init 46 = .ok (.invokespecial 33, 3) := by decide +kernel
theorem dX5_init_49 : decode cX5_init 49 = .ok (.putfield 34, 3) := by decide +kernel
theorem dX5_init_52 : decode cX5_init 52 = .ok (.aload_n 0, 1) := by decide +kernel
theorem dX5_init_53 : decode cX5_init 53 = .ok (.new 38, 3) := by decide +kernel
theorem dX5_init_56 : decode cX5_init 56 = .ok (.dup, 1) := by decide +kernel
theorem dX5_init_57 : decode cX5_init 57 = .ok (.invokespecial 40, 3) := by decide +kernel
theorem dX5_init_60 : decode cX5_init 60 = .ok (.putfield 41, 3) := by decide +kernel
theorem dX5_init_63 : decode cX5_init 63 = .ok (.iconst 0, 1) := by decide +kernel
theorem dX5_init_64 : decode cX5_init 64 = .ok (.istore_n 1, 1) := by decide +kernel
theorem dX5_init_65 : decode cX5_init 65 = .ok (.iload_n 1, 1) := by decide +kernel
theorem dX5_init_66 : decode cX5_init 66 = .ok (.iconst 2, 1) := by decide +kernel
theorem dX5_init_67 : decode cX5_init 67 = .ok (.if_icmp .ge 22, 3) := by decide +kernel
theorem dX5_init_70 : decode cX5_init 70 = .ok (.aload_n 0, 1) := by decide +kernel
theorem dX5_init_71 : decode cX5_init 71 = .ok (.getfield 23, 3) := by decide +kernel
theorem dX5_init_74 : decode cX5_init 74 = .ok (.iload_n 1, 1) := by decide +kernel
theorem dX5_init_75 : decode cX5_init 75 = .ok (.new 9, 3) := by decide +kernel
theorem dX5_init_78 : decode cX5_init 78 = .ok (.dup, 1) := by decide +kernel
theorem dX5_init_79 : decode cX5_init 79 = .ok (.invokespecial 11, 3) := by decide +kernel
theorem dX5_init_82 : decode cX5_init 82 = .ok (.aastore, 1) := by decide +kernel
theorem dX5_init_83 : decode cX5_init 83 = .ok (.iinc 1 1, 3) := by decide +kernel
theorem dX5_init_86 : decode cX5_init 86 = .ok (.goto (-21), 3) := by decide +kernel
theorem dX5_init_89 : decode cX5_init 89 = .ok (.return_, 1) := by decide +kernel
set_option maxRecDepth 20000 in
theorem ggX5_set_X1_prepare : GoodIn wsX5_set wsX1_prepare := goodIn_r _ [7, 8, 9, 10, 11, 12, 13, 14, 15, 16, 17, 18, 19, 20, 21, 22, 23, 24, 25, 26, 27, 28, 29, 30, 31, 32, 33, 34, 35, 36, 37, 38, 64, 65, 66, 67, 68, 69, 70, 71, 72, 73, 74, 75, 76, 77, 78, 79, 80] (by decide +kernel) (by decide +kernel)
set_option maxRecDepth 20000 in
theorem gX5_set_X1_prepare : GoodIn wsX5_set (wsV RX5 45 RX1 yX1_prepare wsX1_prepare) := goodIn_app (goodIn_of _ (by decide +kernel)) ggX5_set_X1_prepare
set_option maxRecDepth 20000 in
theorem ggX5_set_X4_replaceSetting : GoodIn wsX5_set wsX4_replaceSetting := goodIn_r _ [42, 15, 43, 44, 45, 66, 67, 68, 69, 70, 71, 72] (by decide +kernel) (by decide +kernel)
set_option maxRecDepth 20000 in
theorem gX5_set_X4_replaceSetting : GoodIn wsX5_set (wsV RX5 49 RX4 yX4_replaceSetting wsX4_replaceSetting) := goodIn_app (goodIn_of _ (by decide +kernel)) ggX5_set_X4_replaceSetting
set_option maxRecDepth 20000 in
theorem ggX5_set_X5_keptIfDone : GoodIn wsX5_set wsX5_keptIfDone := goodIn_r _ [49, 1, 50, 51, 52, 6, 53, 9, 54, 55, 56, 57, 8, 58, 59, 60, 61, 62, 63, 64, 65] (by decide +kernel) (by decide +kernel)
set_option maxRecDepth 20000 in
theorem gX5_set_X5_keptIfDone : GoodIn wsX5_set (wsV RX5 53 RX5 yX5_keptIfDone wsX5_keptIfDone) := goodIn_app (goodIn_of _ (by decide +kernel)) ggX5_set_X5_keptIfDone
theorem dX5_set_0 : decode cX5_set 0 = .ok (.aload_n 0, 1) := by decide +kernel
theorem dX5_set_1 : decode cX5_set 1 = .ok (.getfield 19, 3) := by decide +kernel
theorem dX5_set_4 : decode cX5_set 4 = .ok (.aload_n 0, 1) := by decide +kernel
theorem dX5_set_5 : decode cX5_set 5 = .ok (.getfield 12, 3) := by decide +kernel
theorem dX5_set_8 : decode cX5_set 8 = .ok (.invokevirtual 45, 3) := by decide +kernel
theorem dX5_set_11 : decode cX5_set 11 = .ok (.aload_n 0, 1) := by decide +kernel
theorem dX5_set_12 : decode cX5_set 12 = .ok (.aload_n 0, 1) := by decide +kernel
theorem dX5_set_13 : decode cX5_set 13 = .ok (.getfield 12, 3) := by decide +kernel
theorem dX5_set_16 : decode cX5_set 16 = .ok (.iload_n 1, 1) := by decide +kernel
theorem dX5_set_17 : decode cX5_set 17 = .ok (.iload_n 2, 1) := by decide +kernel
theorem dX5_set_18 : decode cX5_set 18 = .ok (.invokevirtual 49, 3) := by decide +kernel
theorem dX5_set_21 : decode cX5_set 21 = .ok (.invokevirtual 53, 3) := by decide +kernel
theorem dX5_set_24 : decode cX5_set 24 = .ok (.ireturn, 1) := by decide +kernel
set_option maxRecDepth 20000 in
theorem ggX5_hang_X1_prepare : GoodIn wsX5_hang wsX1_prepare := goodIn_r _ [7, 8, 9, 10, 11, 12, 13, 14, 15, 16, 17, 18, 19, 20, 21, 22, 23, 24, 25, 26, 27, 28, 29, 30, 31, 32, 33, 34, 35, 36, 37, 38, 68, 69, 70, 71, 72, 73, 74, 75, 76, 77, 78, 79, 80, 81, 82, 83, 84] (by decide +kernel) (by decide +kernel)
set_option maxRecDepth 20000 in
theorem gX5_hang_X1_prepare : GoodIn wsX5_hang (wsV RX5 45 RX1 yX1_prepare wsX1_prepare) := goodIn_app (goodIn_of _ (by decide +kernel)) ggX5_hang_X1_prepare
set_option maxRecDepth 20000 in
theorem ggX5_hang_X4_addClock : GoodIn wsX5_hang wsX4_addClock := goodIn_r _ [42, 21, 22, 43, 44, 45, 46, 47, 48, 29, 49, 31, 32, 33, 34, 35, 36, 37, 38, 70, 71, 72, 73, 74, 75, 76, 77, 78, 79, 80, 81, 82, 83, 84] (by decide +kernel) (by decide +kernel)
set_option maxRecDepth 20000 in
theorem gX5_hang_X4_addClock : GoodIn wsX5_hang (wsV RX5 57 RX4 yX4_addClock wsX4_addClock) := goodIn_app (goodIn_of _ (by decide +kernel)) ggX5_hang_X4_addClock
set_option maxRecDepth 20000 in
theorem ggX5_hang_X5_keptIfDone : GoodIn wsX5_hang wsX5_keptIfDone := goodIn_r _ [53, 1, 54, 55, 56, 6, 57, 9, 58, 59, 60, 61, 8, 62, 63, 64, 65, 66, 67, 68, 69] (by decide +kernel) (by decide +kernel)
set_option maxRecDepth 20000 in
theorem gX5_hang_X5_keptIfDone : GoodIn wsX5_hang (wsV RX5 53 RX5 yX5_keptIfDone wsX5_keptIfDone) := goodIn_app (goodIn_of _ (by decide +kernel)) ggX5_hang_X5_keptIfDone
theorem dX5_hang_0 : decode cX5_hang 0 = .ok (.aload_n 0, 1) := by decide +kernel
theorem dX5_hang_1 : decode cX5_hang 1 = .ok (.getfield 19, 3) := by decide +kernel
theorem dX5_hang_4 : decode cX5_hang 4 = .ok (.aload_n 0, 1) := by decide +kernel
theorem dX5_hang_5 : decode cX5_hang 5 = .ok (.getfield 12, 3) := by decide +kernel
theorem dX5_hang_8 : decode cX5_hang 8 = .ok (.invokevirtual 45, 3) := by decide +kernel
theorem dX5_hang_11 : decode cX5_hang 11 = .ok (.aload_n 0, 1) := by decide +kernel
theorem dX5_hang_12 : decode cX5_hang 12 = .ok (.aload_n 0, 1) := by decide +kernel
theorem dX5_hang_13 : decode cX5_hang 13 = .ok (.getfield 12, 3) := by decide +kernel
theorem dX5_hang_16 : decode cX5_hang 16 = .ok (.iload_n 1, 1) := by decide +kernel
theorem dX5_hang_17 : decode cX5_hang 17 = .ok (.iload_n 2, 1) := by decide +kernel
theorem dX5_hang_18 : decode cX5_hang 18 = .ok (.iload_n 3, 1) := by decide +kernel
theorem dX5_hang_19 : decode cX5_hang 19 = .ok (.invokevirtual 57, 3) := by decide +kernel
theorem dX5_hang_22 : decode cX5_hang 22 = .ok (.invokevirtual 53, 3) := by decide +kernel
theorem dX5_hang_25 : decode cX5_hang 25 = .ok (.ireturn, 1) := by decide +kernel
set_option maxRecDepth 20000 in
theorem ggX5_ladder_X1_prepare : GoodIn wsX5_ladder wsX1_prepare := goodIn_r _ [7, 8, 9, 10, 11, 12, 13, 14, 15, 16, 17, 18, 19, 20, 21, 22, 23, 24, 25, 26, 27, 28, 29, 30, 31, 32, 33, 34, 35, 36, 37, 38, 64, 65, 66, 67, 68, 69, 70, 71, 72, 73, 74, 75, 76, 77, 78, 79, 80] (by decide +kernel) (by decide +kernel)
set_option maxRecDepth 20000 in
theorem gX5_ladder_X1_prepare : GoodIn wsX5_ladder (wsV RX5 45 RX1 yX1_prepare wsX1_prepare) := goodIn_app (goodIn_of _ (by decide +kernel)) ggX5_ladder_X1_prepare
set_option maxRecDepth 20000 in
theorem ggX5_ladder_X4_addLadder : GoodIn wsX5_ladder wsX4_addLadder := goodIn_r _ [42, 23, 20, 43, 44, 45, 66, 67, 68, 69, 70, 71, 72] (by decide +kernel) (by decide +kernel)
set_option maxRecDepth 20000 in
theorem gX5_ladder_X4_addLadder : GoodIn wsX5_ladder (wsV RX5 61 RX4 yX4_addLadder wsX4_addLadder) := goodIn_app (goodIn_of _ (by decide +kernel)) ggX5_ladder_X4_addLadder
set_option maxRecDepth 20000 in
theorem ggX5_ladder_X5_keptIfDone : GoodIn wsX5_ladder wsX5_keptIfDone := goodIn_r _ [49, 1, 50, 51, 52, 6, 53, 9, 54, 55, 56, 57, 8, 58, 59, 60, 61, 62, 63, 64, 65] (by decide +kernel) (by decide +kernel)
set_option maxRecDepth 20000 in
theorem gX5_ladder_X5_keptIfDone : GoodIn wsX5_ladder (wsV RX5 53 RX5 yX5_keptIfDone wsX5_keptIfDone) := goodIn_app (goodIn_of _ (by decide +kernel)) ggX5_ladder_X5_keptIfDone
theorem dX5_ladder_0 : decode cX5_ladder 0 = .ok (.aload_n 0, 1) := by decide +kernel
theorem dX5_ladder_1 : decode cX5_ladder 1 = .ok (.getfield 19, 3) := by decide +kernel
theorem dX5_ladder_4 : decode cX5_ladder 4 = .ok (.aload_n 0, 1) := by decide +kernel
theorem dX5_ladder_5 : decode cX5_ladder 5 = .ok (.getfield 12, 3) := by decide +kernel
theorem dX5_ladder_8 : decode cX5_ladder 8 = .ok (.invokevirtual 45, 3) := by decide +kernel
theorem dX5_ladder_11 : decode cX5_ladder 11 = .ok (.aload_n 0, 1) := by decide +kernel
theorem dX5_ladder_12 : decode cX5_ladder 12 = .ok (.aload_n 0, 1) := by decide +kernel
theorem dX5_ladder_13 : decode cX5_ladder 13 = .ok (.getfield 12, 3) := by decide +kernel
theorem dX5_ladder_16 : decode cX5_ladder 16 = .ok (.iload_n 1, 1) := by decide +kernel
theorem dX5_ladder_17 : decode cX5_ladder 17 = .ok (.invokevirtual 61, 3) := by decide +kernel
theorem dX5_ladder_20 : decode cX5_ladder 20 = .ok (.invokevirtual 53, 3) := by decide +kernel
theorem dX5_ladder_23 : decode cX5_ladder 23 = .ok (.ireturn, 1) := by decide +kernel
set_option maxRecDepth 20000 in
theorem ggX5_screw_X1_prepare : GoodIn wsX5_screw wsX1_prepare := goodIn_r _ [7, 8, 9, 10, 11, 12, 13, 14, 15, 16, 17, 18, 19, 20, 21, 22, 23, 24, 25, 26, 27, 28, 29, 30, 31, 32, 33, 34, 35, 36, 37, 38, 69, 70, 71, 72, 73, 74, 75, 76, 77, 78, 79, 80, 81, 82, 83, 84, 85] (by decide +kernel) (by decide +kernel)
set_option maxRecDepth 20000 in
theorem gX5_screw_X1_prepare : GoodIn wsX5_screw (wsV RX5 45 RX1 yX1_prepare wsX1_prepare) := goodIn_app (goodIn_of _ (by decide +kernel)) ggX5_screw_X1_prepare
set_option maxRecDepth 20000 in
theorem ggX5_screw_X4_turnScrew : GoodIn wsX5_screw wsX4_turnScrew := goodIn_r _ [42, 22, 43, 44, 45, 46, 13, 47, 21, 48, 49, 50, 71, 72, 73, 74, 75, 76, 77, 78, 79, 80, 81, 82, 83, 84, 85] (by decide +kernel) (by decide +kernel)
set_option maxRecDepth 20000 in
theorem gX5_screw_X4_turnScrew : GoodIn wsX5_screw (wsV RX5 64 RX4 yX4_turnScrew wsX4_turnScrew) := goodIn_app (goodIn_of _ (by decide +kernel)) ggX5_screw_X4_turnScrew
set_option maxRecDepth 20000 in
theorem ggX5_screw_X5_keptIfDone : GoodIn wsX5_screw wsX5_keptIfDone := goodIn_r _ [54, 1, 55, 56, 57, 6, 58, 9, 59, 60, 61, 62, 8, 63, 64, 65, 66, 67, 68, 69, 70] (by decide +kernel) (by decide +kernel)
set_option maxRecDepth 20000 in
theorem gX5_screw_X5_keptIfDone : GoodIn wsX5_screw (wsV RX5 53 RX5 yX5_keptIfDone wsX5_keptIfDone) := goodIn_app (goodIn_of _ (by decide +kernel)) ggX5_screw_X5_keptIfDone
theorem dX5_screw_0 : decode cX5_screw 0 = .ok (.aload_n 0, 1) := by decide +kernel
theorem dX5_screw_1 : decode cX5_screw 1 = .ok (.getfield 19, 3) := by decide +kernel
theorem dX5_screw_4 : decode cX5_screw 4 = .ok (.aload_n 0, 1) := by decide +kernel
theorem dX5_screw_5 : decode cX5_screw 5 = .ok (.getfield 12, 3) := by decide +kernel
theorem dX5_screw_8 : decode cX5_screw 8 = .ok (.invokevirtual 45, 3) := by decide +kernel
theorem dX5_screw_11 : decode cX5_screw 11 = .ok (.aload_n 0, 1) := by decide +kernel
theorem dX5_screw_12 : decode cX5_screw 12 = .ok (.aload_n 0, 1) := by decide +kernel
theorem dX5_screw_13 : decode cX5_screw 13 = .ok (.getfield 12, 3) := by decide +kernel
theorem dX5_screw_16 : decode cX5_screw 16 = .ok (.iload_n 1, 1) := by decide +kernel
theorem dX5_screw_17 : decode cX5_screw 17 = .ok (.iload_n 2, 1) := by decide +kernel
theorem dX5_screw_18 : decode cX5_screw 18 = .ok (.invokevirtual 64, 3) := by decide +kernel
theorem dX5_screw_21 : decode cX5_screw 21 = .ok (.invokevirtual 53, 3) := by decide +kernel
theorem dX5_screw_24 : decode cX5_screw 24 = .ok (.ireturn, 1) := by decide +kernel
set_option maxRecDepth 20000 in
theorem ggX5_round_X5_chooseRow : GoodIn wsX5_round wsX5_chooseRow := goodIn_r _ [8, 3, 2, 9, 10, 11, 12, 13, 14, 15, 16, 17, 18, 19, 20, 21, 118, 119, 120, 121, 122, 123, 124, 125, 126, 127, 128, 129, 130, 131, 132] (by decide +kernel) (by decide +kernel)
set_option maxRecDepth 20000 in
theorem gX5_round_X5_chooseRow : GoodIn wsX5_round (wsV RX5 67 RX5 yX5_chooseRow wsX5_chooseRow) := goodIn_app (goodIn_of _ (by decide +kernel)) ggX5_round_X5_chooseRow
set_option maxRecDepth 20000 in
theorem ggX5_round_X1_prepare : GoodIn wsX5_round wsX1_prepare := goodIn_r _ [26, 27, 28, 29, 30, 31, 32, 33, 34, 35, 36, 37, 38, 39, 40, 41, 42, 43, 44, 45, 46, 47, 48, 49, 50, 51, 52, 53, 54, 55, 56, 57, 133, 134, 124, 125, 126, 127, 128, 129, 130, 135, 136, 137, 138, 139, 140, 141, 142] (by decide +kernel) (by decide +kernel)
set_option maxRecDepth 20000 in
theorem gX5_round_X1_prepare : GoodIn wsX5_round (wsV RX5 45 RX1 yX1_prepare wsX1_prepare) := goodIn_app (goodIn_of _ (by decide +kernel)) ggX5_round_X1_prepare
set_option maxRecDepth 20000 in
theorem ggX5_round_X4_walkBeat : GoodIn wsX5_round wsX4_walkBeat := goodIn_r _ [61, 62, 41, 34, 44, 63, 64, 65, 32, 66, 67, 68, 69, 70, 71, 72, 73, 74, 14, 75, 16, 21, 76, 77, 78, 79, 40, 80, 81, 82, 83, 84, 42, 39, 85, 86, 87, 88, 89, 90, 91, 48, 92, 57, 54, 55, 56, 93, 94, 95, 96, 97, 98, 99, 100, 101, 53, 102, 103, 104, 105, 52, 131, 132, 124, 125, 126, 127, 128, 129, 130, 135, 136, 137, 138, 139, 140, 141, 142] (by decide +kernel) (by decide +kernel)
set_option maxRecDepth 20000 in
theorem gX5_round_X4_walkBeat : GoodIn wsX5_round (wsV RX5 70 RX4 yX4_walkBeat wsX4_walkBeat) := goodIn_app (goodIn_of _ (by decide +kernel)) ggX5_round_X4_walkBeat
set_option maxRecDepth 20000 in
theorem ggX5_round_X5_keptIfDone : GoodIn wsX5_round wsX5_keptIfDone := goodIn_r _ [109, 1, 110, 111, 112, 25, 113, 28, 114, 115, 116, 117, 27, 118, 119, 120, 121, 122, 123, 133, 134] (by decide +kernel) (by decide +kernel)
set_option maxRecDepth 20000 in
theorem gX5_round_X5_keptIfDone : GoodIn wsX5_round (wsV RX5 53 RX5 yX5_keptIfDone wsX5_keptIfDone) := goodIn_app (goodIn_of _ (by decide +kernel)) ggX5_round_X5_keptIfDone
theorem dX5_round_0 : decode cX5_round 0 = .ok (.aload_n 0, 1) := by decide +kernel
theorem dX5_round_1 : decode cX5_round 1 = .ok (.iload_n 1, 1) := by decide +kernel
theorem dX5_round_2 : decode cX5_round 2 = .ok (.invokevirtual 67, 3) := by decide +kernel
theorem dX5_round_5 : decode cX5_round 5 = .ok (.istore_n 2, 1) := by decide +kernel
theorem dX5_round_6 : decode cX5_round 6 = .ok (.iload_n 2, 1) := by decide +kernel
theorem dX5_round_7 : decode cX5_round 7 = .ok (.ifCond .ge 5, 3) := by decide +kernel
theorem dX5_round_10 : decode cX5_round 10 = .ok (.iload_n 2, 1) := by decide +kernel
theorem dX5_round_11 : decode cX5_round 11 = .ok (.ireturn, 1) := by decide +kernel
theorem dX5_round_12 : decode cX5_round 12 = .ok (.aload_n 0, 1) := by decide +kernel
theorem dX5_round_13 : decode cX5_round 13 = .ok (.getfield 19, 3) := by decide +kernel
theorem dX5_round_16 : decode cX5_round 16 = .ok (.aload_n 0, 1) := by decide +kernel
theorem dX5_round_17 : decode cX5_round 17 = .ok (.getfield 12, 3) := by decide +kernel
theorem dX5_round_20 : decode cX5_round 20 = .ok (.invokevirtual 45, 3) := by decide +kernel
theorem dX5_round_23 : decode cX5_round 23 = .ok (.aload_n 0, 1) := by decide +kernel
theorem dX5_round_24 : decode cX5_round 24 = .ok (.aload_n 0, 1) := by decide +kernel
theorem dX5_round_25 : decode cX5_round 25 = .ok (.getfield 12, 3) := by decide +kernel
theorem dX5_round_28 : decode cX5_round 28 = .ok (.aload_n 0, 1) := by decide +kernel
theorem dX5_round_29 : decode cX5_round 29 = .ok (.getfield 41, 3) := by decide +kernel
theorem dX5_round_32 : decode cX5_round 32 = .ok (.invokevirtual 70, 3) := by decide +kernel
theorem dX5_round_35 : decode cX5_round 35 = .ok (.invokevirtual 53, 3) := by decide +kernel
theorem dX5_round_38 : decode cX5_round 38 = .ok (.ireturn, 1) := by decide +kernel
set_option maxRecDepth 20000 in
theorem ggX5_pass_X1_prepare : GoodIn wsX5_pass wsX1_prepare := goodIn_r _ [7, 8, 9, 10, 11, 12, 13, 14, 15, 16, 17, 18, 19, 20, 21, 22, 23, 24, 25, 26, 27, 28, 29, 30, 31, 32, 33, 34, 35, 36, 37, 38, 78, 79, 80, 81, 82, 83, 84, 85, 86, 87, 88, 89, 90, 91, 92, 93, 94] (by decide +kernel) (by decide +kernel)
set_option maxRecDepth 20000 in
theorem gX5_pass_X1_prepare : GoodIn wsX5_pass (wsV RX5 45 RX1 yX1_prepare wsX1_prepare) := goodIn_app (goodIn_of _ (by decide +kernel)) ggX5_pass_X1_prepare
set_option maxRecDepth 20000 in
theorem ggX5_pass_X4_passDays : GoodIn wsX5_pass wsX4_passDays := goodIn_r _ [42, 24, 21, 22, 15, 43, 44, 45, 46, 47, 48, 29, 49, 38, 35, 36, 50, 51, 52, 53, 54, 33, 34, 55, 56, 57, 13, 58, 59, 80, 81, 82, 83, 84, 85, 86, 87, 88, 89, 90, 91, 92, 93, 94] (by decide +kernel) (by decide +kernel)
set_option maxRecDepth 20000 in
theorem gX5_pass_X4_passDays : GoodIn wsX5_pass (wsV RX5 74 RX4 yX4_passDays wsX4_passDays) := goodIn_app (goodIn_of _ (by decide +kernel)) ggX5_pass_X4_passDays
set_option maxRecDepth 20000 in
theorem ggX5_pass_X5_keptIfDone : GoodIn wsX5_pass wsX5_keptIfDone := goodIn_r _ [63, 1, 64, 65, 66, 6, 67, 9, 68, 69, 70, 71, 8, 72, 73, 74, 75, 76, 77, 78, 79] (by decide +kernel) (by decide +kernel)
set_option maxRecDepth 20000 in
theorem gX5_pass_X5_keptIfDone : GoodIn wsX5_pass (wsV RX5 53 RX5 yX5_keptIfDone wsX5_keptIfDone) := goodIn_app (goodIn_of _ (by decide +kernel)) ggX5_pass_X5_keptIfDone
theorem dX5_pass_0 : decode cX5_pass 0 = .ok (.aload_n 0, 1) := by decide +kernel
theorem dX5_pass_1 : decode cX5_pass 1 = .ok (.getfield 19, 3) := by decide +kernel
theorem dX5_pass_4 : decode cX5_pass 4 = .ok (.aload_n 0, 1) := by decide +kernel
theorem dX5_pass_5 : decode cX5_pass 5 = .ok (.getfield 12, 3) := by decide +kernel
theorem dX5_pass_8 : decode cX5_pass 8 = .ok (.invokevirtual 45, 3) := by decide +kernel
theorem dX5_pass_11 : decode cX5_pass 11 = .ok (.aload_n 0, 1) := by decide +kernel
theorem dX5_pass_12 : decode cX5_pass 12 = .ok (.aload_n 0, 1) := by decide +kernel
theorem dX5_pass_13 : decode cX5_pass 13 = .ok (.getfield 12, 3) := by decide +kernel
theorem dX5_pass_16 : decode cX5_pass 16 = .ok (.iload_n 1, 1) := by decide +kernel
theorem dX5_pass_17 : decode cX5_pass 17 = .ok (.invokevirtual 74, 3) := by decide +kernel
theorem dX5_pass_20 : decode cX5_pass 20 = .ok (.invokevirtual 53, 3) := by decide +kernel
theorem dX5_pass_23 : decode cX5_pass 23 = .ok (.ireturn, 1) := by decide +kernel
set_option maxRecDepth 20000 in
theorem ggX5_change_X1_prepare : GoodIn wsX5_change wsX1_prepare := goodIn_r _ [7, 8, 9, 10, 11, 12, 13, 14, 15, 16, 17, 18, 19, 20, 21, 22, 23, 24, 25, 26, 27, 28, 29, 30, 31, 32, 33, 34, 35, 36, 37, 38, 68, 69, 70, 71, 72, 73, 74, 75, 76, 77, 78, 79, 80, 81, 82, 83, 84] (by decide +kernel) (by decide +kernel)
set_option maxRecDepth 20000 in
theorem gX5_change_X1_prepare : GoodIn wsX5_change (wsV RX5 45 RX1 yX1_prepare wsX1_prepare) := goodIn_app (goodIn_of _ (by decide +kernel)) ggX5_change_X1_prepare
set_option maxRecDepth 20000 in
theorem ggX5_change_X4_changeClocks : GoodIn wsX5_change wsX4_changeClocks := goodIn_r _ [42, 21, 22, 43, 44, 45, 46, 47, 13, 48, 70, 71, 72, 73, 74, 75, 76, 77, 78, 79, 80, 81, 82, 83, 84] (by decide +kernel) (by decide +kernel)
set_option maxRecDepth 20000 in
theorem gX5_change_X4_changeClocks : GoodIn wsX5_change (wsV RX5 77 RX4 yX4_changeClocks wsX4_changeClocks) := goodIn_app (goodIn_of _ (by decide +kernel)) ggX5_change_X4_changeClocks
set_option maxRecDepth 20000 in
theorem ggX5_change_X5_keptIfDone : GoodIn wsX5_change wsX5_keptIfDone := goodIn_r _ [53, 1, 54, 55, 56, 6, 57, 9, 58, 59, 60, 61, 8, 62, 63, 64, 65, 66, 67, 68, 69] (by decide +kernel) (by decide +kernel)
set_option maxRecDepth 20000 in
theorem gX5_change_X5_keptIfDone : GoodIn wsX5_change (wsV RX5 53 RX5 yX5_keptIfDone wsX5_keptIfDone) := goodIn_app (goodIn_of _ (by decide +kernel)) ggX5_change_X5_keptIfDone
theorem dX5_change_0 : decode cX5_change 0 = .ok (.aload_n 0, 1) := by decide +kernel
theorem dX5_change_1 : decode cX5_change 1 = .ok (.getfield 19, 3) := by decide +kernel
theorem dX5_change_4 : decode cX5_change 4 = .ok (.aload_n 0, 1) := by decide +kernel
theorem dX5_change_5 : decode cX5_change 5 = .ok (.getfield 12, 3) := by decide +kernel
theorem dX5_change_8 : decode cX5_change 8 = .ok (.invokevirtual 45, 3) := by decide +kernel
theorem dX5_change_11 : decode cX5_change 11 = .ok (.aload_n 0, 1) := by decide +kernel
theorem dX5_change_12 : decode cX5_change 12 = .ok (.aload_n 0, 1) := by decide +kernel
theorem dX5_change_13 : decode cX5_change 13 = .ok (.getfield 12, 3) := by decide +kernel
theorem dX5_change_16 : decode cX5_change 16 = .ok (.iload_n 1, 1) := by decide +kernel
theorem dX5_change_17 : decode cX5_change 17 = .ok (.invokevirtual 77, 3) := by decide +kernel
theorem dX5_change_20 : decode cX5_change 20 = .ok (.invokevirtual 53, 3) := by decide +kernel
theorem dX5_change_23 : decode cX5_change 23 = .ok (.ireturn, 1) := by decide +kernel
set_option maxRecDepth 20000 in
theorem ggX5_of_X4_hasClock : GoodIn wsX5_of wsX4_hasClock := goodIn_r _ [17, 18, 47, 48, 49, 50, 51, 52, 53] (by decide +kernel) (by decide +kernel)
set_option maxRecDepth 20000 in
theorem gX5_of_X4_hasClock : GoodIn wsX5_of (wsV RX5 80 RX4 yX4_hasClock wsX4_hasClock) := goodIn_app (goodIn_of _ (by decide +kernel)) ggX5_of_X4_hasClock
set_option maxRecDepth 20000 in
theorem ggX5_of_X0_isOffBeyond : GoodIn wsX5_of wsX0_isOffBeyond := goodIn_r _ [23, 24, 25, 26, 27, 28, 54, 55, 56, 57, 58, 59, 60, 61] (by decide +kernel) (by decide +kernel)
set_option maxRecDepth 20000 in
theorem gX5_of_X0_isOffBeyond : GoodIn wsX5_of (wsV RX5 118 RX0 yX0_isOffBeyond wsX0_isOffBeyond) := goodIn_app (goodIn_of _ (by decide +kernel)) ggX5_of_X0_isOffBeyond
set_option maxRecDepth 20000 in
theorem ggX5_of_X4_ladderNeeded : GoodIn wsX5_of wsX4_ladderNeeded := goodIn_r _ [32, 33, 34, 35, 54, 55, 56, 57, 58, 59, 60, 61, 47, 48, 49, 50, 51, 52, 53] (by decide +kernel) (by decide +kernel)
set_option maxRecDepth 20000 in
theorem gX5_of_X4_ladderNeeded : GoodIn wsX5_of (wsV RX5 121 RX4 yX4_ladderNeeded wsX4_ladderNeeded) := goodIn_app (goodIn_of _ (by decide +kernel)) ggX5_of_X4_ladderNeeded
set_option maxRecDepth 20000 in
theorem ggX5_of_X4_canBeWound : GoodIn wsX5_of wsX4_canBeWound := goodIn_r _ [39, 33, 40, 30, 31, 16, 32, 34, 35, 54, 55, 56, 57, 58, 59, 60, 61, 47, 48, 49, 50, 51, 52, 53] (by decide +kernel) (by decide +kernel)
set_option maxRecDepth 20000 in
theorem gX5_of_X4_canBeWound : GoodIn wsX5_of (wsV RX5 125 RX4 yX4_canBeWound wsX4_canBeWound) := goodIn_app (goodIn_of _ (by decide +kernel)) ggX5_of_X4_canBeWound
theorem dX5_of_0 : decode cX5_of 0 = .ok (.aload_n 0, 1) := by decide +kernel
theorem dX5_of_1 : decode cX5_of 1 = .ok (.getfield 12, 3) := by decide +kernel
theorem dX5_of_4 : decode cX5_of 4 = .ok (.iload_n 1, 1) := by decide +kernel
theorem dX5_of_5 : decode cX5_of 5 = .ok (.invokevirtual 80, 3) := by decide +kernel
theorem dX5_of_8 : decode cX5_of 8 = .ok (.ifCond .ne 5, 3) := by decide +kernel
theorem dX5_of_11 : decode cX5_of 11 = .ok (.iconst (-1), 1) := by decide +kernel
theorem dX5_of_12 : decode cX5_of 12 = .ok (.ireturn, 1) := by decide +kernel
theorem dX5_of_13 : decode cX5_of 13 = .ok (.aload_n 0, 1) := by decide +kernel
theorem dX5_of_14 : decode cX5_of 14 = .ok (.getfield 12, 3) := by decide +kernel
theorem dX5_of_17 : decode cX5_of 17 = .ok (.getfield 84, 3) := by decide +kernel
theorem dX5_of_20 : decode cX5_of 20 = .ok (.iload_n 1, 1) := by decide +kernel
theorem dX5_of_21 : decode cX5_of 21 = .ok (.aaload, 1) := by decide +kernel
theorem dX5_of_22 : decode cX5_of 22 = .ok (.astore_n 3, 1) := by decide +kernel
theorem dX5_of_23 : decode cX5_of 23 = .ok (.iload_n 2, 1) := by decide +kernel
theorem dX5_of_24 : decode cX5_of 24 = .ok (.tableswitch 165 0 10 #[60, 65, 70, 78, 86, 94, 99, 112, 134, 143, 160], 60) := by decide +kernel
theorem dX5_of_84 : decode cX5_of 84 = .ok (.aload_n 3, 1) := by decide +kernel
theorem dX5_of_85 : decode cX5_of 85 = .ok (.getfield 88, 3) := by decide +kernel
theorem dX5_of_88 : decode cX5_of 88 = .ok (.ireturn, 1) := by decide +kernel
theorem dX5_of_89 : decode cX5_of 89 = .ok (.aload_n 3, 1) := by decide +kernel
theorem dX5_of_90 : decode cX5_of 90 = .ok (.getfield 94, 3) := by decide +kernel
theorem dX5_of_93 : decode cX5_of 93 = .ok (.ireturn, 1) := by decide +kernel
theorem dX5_of_94 : decode cX5_of 94 = .ok (.aload_n 3, 1) := by decide +kernel
theorem dX5_of_95 : decode cX5_of 95 = .ok (.getfield 97, 3) := by decide +kernel
theorem dX5_of_98 : decode cX5_of 98 = .ok (.bipush 100, 2) := by decide +kernel
theorem dX5_of_100 : decode cX5_of 100 = .ok (.iadd, 1) := by decide +kernel
theorem dX5_of_101 : decode cX5_of 101 = .ok (.ireturn, 1) := by decide +kernel
theorem dX5_of_102 : decode cX5_of 102 = .ok (.aload_n 3, 1) := by decide +kernel
theorem dX5_of_103 : decode cX5_of 103 = .ok (.getfield 100, 3) := by decide +kernel
theorem dX5_of_106 : decode cX5_of 106 = .ok (.bipush 20, 2) := by decide +kernel
theorem dX5_of_108 : decode cX5_of 108 = .ok (.iadd, 1) := by decide +kernel
theorem dX5_of_109 : decode cX5_of 109 = .ok (.ireturn, 1) := by decide +kernel
theorem dX5_of_110 : decode cX5_of 110 = .ok (.aload_n 3, 1) := by decide +kernel
theorem dX5_of_111 : decode cX5_of 111 = .ok (.getfield 103, 3) := by decide +kernel
theorem dX5_of_114 : decode cX5_of 114 = .ok (.ldc 106, 2) := by decide +kernel
theorem dX5_of_116 : decode cX5_of 116 = .ok (.iadd, 1) := by decide +kernel
theorem dX5_of_117 : decode cX5_of 117 = .ok (.ireturn, 1) := by decide +kernel
theorem dX5_of_118 : decode cX5_of 118 = .ok (.aload_n 3, 1) := by decide +kernel
theorem dX5_of_119 : decode cX5_of 119 = .ok (.getfield 107, 3) := by decide +kernel
theorem dX5_of_122 : decode cX5_of 122 = .ok (.ireturn, 1) := by decide +kernel
theorem dX5_of_123 : decode cX5_of 123 = .ok (.aload_n 3, 1) := by decide +kernel
theorem dX5_of_124 : decode cX5_of 124 = .ok (.getfield 110, 3) := by decide +kernel
theorem dX5_of_127 : decode cX5_of 127 = .ok (.ifCond .eq 7, 3) := by decide +kernel
theorem dX5_of_130 : decode cX5_of 130 = .ok (.iconst 1, 1) := by decide +kernel
theorem dX5_of_131 : decode cX5_of 131 = .ok (.goto 4, 3) := by decide +kernel
theorem dX5_of_134 : decode cX5_of 134 = .ok (.iconst 0, 1) := by decide +kernel
theorem dX5_of_135 : decode cX5_of 135 = .ok (.ireturn, 1) := by decide +kernel
theorem dX5_of_136 : decode cX5_of 136 = .ok (.aload_n 3, 1) := by decide +kernel
theorem dX5_of_137 : decode cX5_of 137 = .ok (.aload_n 0, 1) := by decide +kernel
theorem dX5_of_138 : decode cX5_of 138 = .ok (.getfield 12, 3) := by decide +kernel
theorem dX5_of_141 : decode cX5_of 141 = .ok (.getfield 114, 3) := by decide +kernel
theorem dX5_of_144 : decode cX5_of 144 = .ok (.iconst 0, 1) := by decide +kernel
theorem dX5_of_145 : decode cX5_of 145 = .ok (.iaload, 1) := by decide +kernel
theorem dX5_of_146 : decode cX5_of 146 = .ok (.invokevirtual 118, 3) := by decide +kernel
theorem dX5_of_149 : decode cX5_of 149 = .ok (.ifCond .eq 7, 3) := by decide +kernel
theorem dX5_of_152 : decode cX5_of 152 = .ok (.iconst 0, 1) := by decide +kernel
theorem dX5_of_153 : decode cX5_of 153 = .ok (.goto 4, 3) := by decide +kernel
theorem dX5_of_156 : decode cX5_of 156 = .ok (.iconst 1, 1) := by decide +kernel
theorem dX5_of_157 : decode cX5_of 157 = .ok (.ireturn, 1) := by decide +kernel
theorem dX5_of_158 : decode cX5_of 158 = .ok (.aload_n 0, 1) := by decide +kernel
theorem dX5_of_159 : decode cX5_of 159 = .ok (.getfield 12, 3) := by decide +kernel
theorem dX5_of_162 : decode cX5_of 162 = .ok (.aload_n 3, 1) := by decide +kernel
theorem dX5_of_163 : decode cX5_of 163 = .ok (.invokevirtual 121, 3) := by decide +kernel
theorem dX5_of_166 : decode cX5_of 166 = .ok (.ireturn, 1) := by decide +kernel
theorem dX5_of_167 : decode cX5_of 167 = .ok (.aload_n 0, 1) := by decide +kernel
theorem dX5_of_168 : decode cX5_of 168 = .ok (.getfield 12, 3) := by decide +kernel
theorem dX5_of_171 : decode cX5_of 171 = .ok (.aload_n 3, 1) := by decide +kernel
theorem dX5_of_172 : decode cX5_of 172 = .ok (.invokevirtual 125, 3) := by decide +kernel
theorem dX5_of_175 : decode cX5_of 175 = .ok (.ifCond .eq 7, 3) := by decide +kernel
theorem dX5_of_178 : decode cX5_of 178 = .ok (.iconst 1, 1) := by decide +kernel
theorem dX5_of_179 : decode cX5_of 179 = .ok (.goto 4, 3) := by decide +kernel
theorem dX5_of_182 : decode cX5_of 182 = .ok (.iconst 0, 1) := by decide +kernel
theorem dX5_of_183 : decode cX5_of 183 = .ok (.ireturn, 1) := by decide +kernel
theorem dX5_of_184 : decode cX5_of 184 = .ok (.aload_n 3, 1) := by decide +kernel
theorem dX5_of_185 : decode cX5_of 185 = .ok (.getfield 129, 3) := by decide +kernel
theorem dX5_of_188 : decode cX5_of 188 = .ok (.ireturn, 1) := by decide +kernel
theorem dX5_of_189 : decode cX5_of 189 = .ok (.bipush (-2), 2) := by decide +kernel
theorem dX5_of_191 : decode cX5_of 191 = .ok (.ireturn, 1) := by decide +kernel
set_option maxRecDepth 20000 in
theorem ggX5_ofLadder_X4_hasLadder : GoodIn wsX5_ofLadder wsX4_hasLadder := goodIn_r _ [7, 8, 15, 16, 17, 18, 19, 20, 21] (by decide +kernel) (by decide +kernel)
set_option maxRecDepth 20000 in
theorem gX5_ofLadder_X4_hasLadder : GoodIn wsX5_ofLadder (wsV RX5 132 RX4 yX4_hasLadder wsX4_hasLadder) := goodIn_app (goodIn_of _ (by decide +kernel)) ggX5_ofLadder_X4_hasLadder
theorem dX5_ofLadder_0 : decode cX5_ofLadder 0 = .ok (.aload_n 0, 1) := by decide +kernel
theorem dX5_ofLadder_1 : decode cX5_ofLadder 1 = .ok (.getfield 12, 3) := by decide +kernel
theorem dX5_ofLadder_4 : decode cX5_ofLadder 4 = .ok (.iload_n 1, 1) := by decide +kernel
theorem dX5_ofLadder_5 : decode cX5_ofLadder 5 = .ok (.invokevirtual 132, 3) := by decide +kernel
theorem dX5_ofLadder_8 : decode cX5_ofLadder 8 = .ok (.ifCond .eq 15, 3) := by decide +kernel
theorem dX5_ofLadder_11 : decode cX5_ofLadder 11 = .ok (.aload_n 0, 1) := by decide +kernel
theorem dX5_ofLadder_12 : decode cX5_ofLadder 12 = .ok (.getfield 12, 3) := by decide +kernel
theorem dX5_ofLadder_15 : decode cX5_ofLadder 15 = .ok (.getfield 135, 3) := by decide +kernel
theorem dX5_ofLadder_18 : decode cX5_ofLadder 18 = .ok (.iload_n 1, 1) := by decide +kernel
theorem dX5_ofLadder_19 : decode cX5_ofLadder 19 = .ok (.iaload, 1) := by decide +kernel
theorem dX5_ofLadder_20 : decode cX5_ofLadder 20 = .ok (.goto 4, 3) := by decide +kernel
theorem dX5_ofLadder_23 : decode cX5_ofLadder 23 = .ok (.iconst (-1), 1) := by decide +kernel
theorem dX5_ofLadder_24 : decode cX5_ofLadder 24 = .ok (.ireturn, 1) := by decide +kernel
set_option maxRecDepth 20000 in
theorem ggX5_count_X4_setOfStill : GoodIn wsX5_count wsX4_setOfStill := goodIn_r _ [15, 16, 17, 18, 60, 61, 62, 63, 64, 65, 66, 74, 75, 76, 77, 78, 79, 80, 81] (by decide +kernel) (by decide +kernel)
set_option maxRecDepth 20000 in
theorem gX5_count_X4_setOfStill : GoodIn wsX5_count (wsV RX5 147 RX4 yX4_setOfStill wsX4_setOfStill) := goodIn_app (goodIn_of _ (by decide +kernel)) ggX5_count_X4_setOfStill
set_option maxRecDepth 20000 in
theorem ggX5_count_X4_numberOffBeyondTold : GoodIn wsX5_count wsX4_numberOffBeyondTold := goodIn_r _ [22, 16, 17, 23, 24, 25, 26, 27, 28, 29, 30, 31, 32, 33, 60, 61, 62, 63, 64, 65, 66, 74, 75, 76, 77, 78, 79, 80, 81] (by decide +kernel) (by decide +kernel)
set_option maxRecDepth 20000 in
theorem gX5_count_X4_numberOffBeyondTold : GoodIn wsX5_count (wsV RX5 151 RX4 yX4_numberOffBeyondTold wsX4_numberOffBeyondTold) := goodIn_app (goodIn_of _ (by decide +kernel)) ggX5_count_X4_numberOffBeyondTold
set_option maxRecDepth 20000 in
theorem ggX5_count_X4_numberThatCannotBeWound : GoodIn wsX5_count wsX4_numberThatCannotBeWound := goodIn_r _ [37, 16, 17, 38, 39, 40, 14, 41, 42, 43, 44, 45, 46, 47, 48, 60, 61, 62, 63, 64, 65, 66, 74, 75, 76, 77, 78, 79, 80, 81] (by decide +kernel) (by decide +kernel)
set_option maxRecDepth 20000 in
theorem gX5_count_X4_numberThatCannotBeWound : GoodIn wsX5_count (wsV RX5 154 RX4 yX4_numberThatCannotBeWound wsX4_numberThatCannotBeWound) := goodIn_app (goodIn_of _ (by decide +kernel)) ggX5_count_X4_numberThatCannotBeWound
set_option maxRecDepth 20000 in
theorem ggX5_count_X4_timesWoundInAll : GoodIn wsX5_count wsX4_timesWoundInAll := goodIn_r _ [52, 16, 17, 53, 60, 61, 62, 63, 64, 65, 66, 74, 75, 76, 77, 78, 79, 80, 81] (by decide +kernel) (by decide +kernel)
set_option maxRecDepth 20000 in
theorem gX5_count_X4_timesWoundInAll : GoodIn wsX5_count (wsV RX5 160 RX4 yX4_timesWoundInAll wsX4_timesWoundInAll) := goodIn_app (goodIn_of _ (by decide +kernel)) ggX5_count_X4_timesWoundInAll
theorem dX5_count_0 : decode cX5_count 0 = .ok (.iload_n 1, 1) := by decide +kernel
theorem dX5_count_1 : decode cX5_count 1 = .ok (.tableswitch 191 0 13 #[71, 79, 87, 95, 103, 111, 119, 127, 135, 145, 155, 165, 175, 183], 71) := by decide +kernel
theorem dX5_count_72 : decode cX5_count 72 = .ok (.aload_n 0, 1) := by decide +kernel
theorem dX5_count_73 : decode cX5_count 73 = .ok (.getfield 12, 3) := by decide +kernel
theorem dX5_count_76 : decode cX5_count 76 = .ok (.getfield 138, 3) := by decide +kernel
theorem dX5_count_79 : decode cX5_count 79 = .ok (.ireturn, 1) := by decide +kernel
theorem dX5_count_80 : decode cX5_count 80 = .ok (.aload_n 0, 1) := by decide +kernel
theorem dX5_count_81 : decode cX5_count 81 = .ok (.getfield 12, 3) := by decide +kernel
theorem dX5_count_84 : decode cX5_count 84 = .ok (.getfield 141, 3) := by decide +kernel
theorem dX5_count_87 : decode cX5_count 87 = .ok (.ireturn, 1) := by decide +kernel
theorem dX5_count_88 : decode cX5_count 88 = .ok (.aload_n 0, 1) := by decide +kernel
theorem dX5_count_89 : decode cX5_count 89 = .ok (.getfield 12, 3) := by decide +kernel
theorem dX5_count_92 : decode cX5_count 92 = .ok (.getfield 144, 3) := by decide +kernel
theorem dX5_count_95 : decode cX5_count 95 = .ok (.ireturn, 1) := by decide +kernel
theorem dX5_count_96 : decode cX5_count 96 = .ok (.aload_n 0, 1) := by decide +kernel
theorem dX5_count_97 : decode cX5_count 97 = .ok (.getfield 12, 3) := by decide +kernel
theorem dX5_count_100 : decode cX5_count 100 = .ok (.invokevirtual 147, 3) := by decide +kernel
theorem dX5_count_103 : decode cX5_count 103 = .ok (.ireturn, 1) := by decide +kernel
theorem dX5_count_104 : decode cX5_count 104 = .ok (.aload_n 0, 1) := by decide +kernel
theorem dX5_count_105 : decode cX5_count 105 = .ok (.getfield 12, 3) := by decide +kernel
theorem dX5_count_108 : decode cX5_count 108 = .ok (.invokevirtual 151, 3) := by decide +kernel
theorem dX5_count_111 : decode cX5_count 111 = .ok (.ireturn, 1) := by decide +kernel
theorem dX5_count_112 : decode cX5_count 112 = .ok (.aload_n 0, 1) := by decide +kernel
theorem dX5_count_113 : decode cX5_count 113 = .ok (.getfield 12, 3) := by decide +kernel
theorem dX5_count_116 : decode cX5_count 116 = .ok (.invokevirtual 154, 3) := by decide +kernel
theorem dX5_count_119 : decode cX5_count 119 = .ok (.ireturn, 1) := by decide +kernel
theorem dX5_count_120 : decode cX5_count 120 = .ok (.aload_n 0, 1) := by decide +kernel
theorem dX5_count_121 : decode cX5_count 121 = .ok (.getfield 12, 3) := by decide +kernel
theorem dX5_count_124 : decode cX5_count 124 = .ok (.getfield 157, 3) := by decide +kernel
theorem dX5_count_127 : decode cX5_count 127 = .ok (.ireturn, 1) := by decide +kernel
theorem dX5_count_128 : decode cX5_count 128 = .ok (.aload_n 0, 1) := by decide +kernel
theorem dX5_count_129 : decode cX5_count 129 = .ok (.getfield 12, 3) := by decide +kernel
theorem dX5_count_132 : decode cX5_count 132 = .ok (.invokevirtual 160, 3) := by decide +kernel
theorem dX5_count_135 : decode cX5_count 135 = .ok (.ireturn, 1) := by decide +kernel
theorem dX5_count_136 : decode cX5_count 136 = .ok (.aload_n 0, 1) := by decide +kernel
theorem dX5_count_137 : decode cX5_count 137 = .ok (.getfield 12, 3) := by decide +kernel
theorem dX5_count_140 : decode cX5_count 140 = .ok (.getfield 114, 3) := by decide +kernel
theorem dX5_count_143 : decode cX5_count 143 = .ok (.iconst 0, 1) := by decide +kernel
theorem dX5_count_144 : decode cX5_count 144 = .ok (.iaload, 1) := by decide +kernel
theorem dX5_count_145 : decode cX5_count 145 = .ok (.ireturn, 1) := by decide +kernel
theorem dX5_count_146 : decode cX5_count 146 = .ok (.aload_n 0, 1) := by decide +kernel
theorem dX5_count_147 : decode cX5_count 147 = .ok (.getfield 12, 3) := by decide +kernel
theorem dX5_count_150 : decode cX5_count 150 = .ok (.getfield 114, 3) := by decide +kernel
theorem dX5_count_153 : decode cX5_count 153 = .ok (.iconst 1, 1) := by decide +kernel
theorem dX5_count_154 : decode cX5_count 154 = .ok (.iaload, 1) := by decide +kernel
theorem dX5_count_155 : decode cX5_count 155 = .ok (.ireturn, 1) := by decide +kernel
theorem dX5_count_156 : decode cX5_count 156 = .ok (.aload_n 0, 1) := by decide +kernel
theorem dX5_count_157 : decode cX5_count 157 = .ok (.getfield 12, 3) := by decide +kernel
theorem dX5_count_160 : decode cX5_count 160 = .ok (.getfield 114, 3) := by decide +kernel
theorem dX5_count_163 : decode cX5_count 163 = .ok (.iconst 2, 1) := by decide +kernel
theorem dX5_count_164 : decode cX5_count 164 = .ok (.iaload, 1) := by decide +kernel
theorem dX5_count_165 : decode cX5_count 165 = .ok (.ireturn, 1) := by decide +kernel
theorem dX5_count_166 : decode cX5_count 166 = .ok (.aload_n 0, 1) := by decide +kernel
theorem dX5_count_167 : decode cX5_count 167 = .ok (.getfield 12, 3) := by decide +kernel
theorem dX5_count_170 : decode cX5_count 170 = .ok (.getfield 114, 3) := by decide +kernel
theorem dX5_count_173 : decode cX5_count 173 = .ok (.iconst 3, 1) := by decide +kernel
theorem dX5_count_174 : decode cX5_count 174 = .ok (.iaload, 1) := by decide +kernel
theorem dX5_count_175 : decode cX5_count 175 = .ok (.ireturn, 1) := by decide +kernel
theorem dX5_count_176 : decode cX5_count 176 = .ok (.aload_n 0, 1) := by decide +kernel
theorem dX5_count_177 : decode cX5_count 177 = .ok (.getfield 34, 3) := by decide +kernel
theorem dX5_count_180 : decode cX5_count 180 = .ok (.getfield 163, 3) := by decide +kernel
theorem dX5_count_183 : decode cX5_count 183 = .ok (.ireturn, 1) := by decide +kernel
theorem dX5_count_184 : decode cX5_count 184 = .ok (.aload_n 0, 1) := by decide +kernel
theorem dX5_count_185 : decode cX5_count 185 = .ok (.getfield 19, 3) := by decide +kernel
theorem dX5_count_188 : decode cX5_count 188 = .ok (.getfield 166, 3) := by decide +kernel
theorem dX5_count_191 : decode cX5_count 191 = .ok (.ireturn, 1) := by decide +kernel
theorem dX5_count_192 : decode cX5_count 192 = .ok (.bipush (-2), 2) := by decide +kernel
theorem dX5_count_194 : decode cX5_count 194 = .ok (.ireturn, 1) := by decide +kernel
set_option maxRecDepth 20000 in
theorem ggX5_takes_X5_chooseRow : GoodIn wsX5_takes wsX5_chooseRow := goodIn_r _ [7, 2, 1, 8, 9, 10, 11, 12, 13, 14, 15, 16, 17, 18, 19, 20, 54, 55, 56, 57, 58, 59, 60, 61, 62, 63, 64, 65, 66, 67, 68] (by decide +kernel) (by decide +kernel)
set_option maxRecDepth 20000 in
theorem gX5_takes_X5_chooseRow : GoodIn wsX5_takes (wsV RX5 67 RX5 yX5_chooseRow wsX5_chooseRow) := goodIn_app (goodIn_of _ (by decide +kernel)) ggX5_takes_X5_chooseRow
set_option maxRecDepth 20000 in
theorem ggX5_takes_X4_minutesOf : GoodIn wsX5_takes wsX4_minutesOf := goodIn_r _ [25, 26, 27, 28, 29, 30, 31, 32, 33, 34, 35, 36, 13, 37, 15, 20, 38, 39, 40, 24, 41, 42, 43, 44, 45, 46, 47, 48, 49, 50, 51, 52, 53, 67, 68, 60, 61, 62, 63, 64, 65, 66, 69, 70, 71, 72, 73, 74, 75, 76] (by decide +kernel) (by decide +kernel)
set_option maxRecDepth 20000 in
theorem gX5_takes_X4_minutesOf : GoodIn wsX5_takes (wsV RX5 169 RX4 yX4_minutesOf wsX4_minutesOf) := goodIn_app (goodIn_of _ (by decide +kernel)) ggX5_takes_X4_minutesOf
theorem dX5_takes_0 : decode cX5_takes 0 = .ok (.aload_n 0, 1) := by decide +kernel
theorem dX5_takes_1 : decode cX5_takes 1 = .ok (.iload_n 1, 1) := by decide +kernel
theorem dX5_takes_2 : decode cX5_takes 2 = .ok (.invokevirtual 67, 3) := by decide +kernel
theorem dX5_takes_5 : decode cX5_takes 5 = .ok (.istore_n 2, 1) := by decide +kernel
theorem dX5_takes_6 : decode cX5_takes 6 = .ok (.iload_n 2, 1) := by decide +kernel
theorem dX5_takes_7 : decode cX5_takes 7 = .ok (.ifCond .ge 7, 3) := by decide +kernel
theorem dX5_takes_10 : decode cX5_takes 10 = .ok (.iload_n 2, 1) := by decide +kernel
theorem dX5_takes_11 : decode cX5_takes 11 = .ok (.goto 14, 3) := by decide +kernel
theorem dX5_takes_14 : decode cX5_takes 14 = .ok (.aload_n 0, 1) := by decide +kernel
theorem dX5_takes_15 : decode cX5_takes 15 = .ok (.getfield 12, 3) := by decide +kernel
theorem dX5_takes_18 : decode cX5_takes 18 = .ok (.aload_n 0, 1) := by decide +kernel
theorem dX5_takes_19 : decode cX5_takes 19 = .ok (.getfield 41, 3) := by decide +kernel
theorem dX5_takes_22 : decode cX5_takes 22 = .ok (.invokevirtual 169, 3) := by decide +kernel
theorem dX5_takes_25 : decode cX5_takes 25 = .ok (.ireturn, 1) := by decide +kernel
set_option maxRecDepth 20000 in
theorem ggX5_lasts_X4_hasClock : GoodIn wsX5_lasts wsX4_hasClock := goodIn_r _ [6, 7, 45, 46, 47, 48, 49, 50, 51] (by decide +kernel) (by decide +kernel)
set_option maxRecDepth 20000 in
theorem gX5_lasts_X4_hasClock : GoodIn wsX5_lasts (wsV RX5 80 RX4 yX4_hasClock wsX4_hasClock) := goodIn_app (goodIn_of _ (by decide +kernel)) ggX5_lasts_X4_hasClock
set_option maxRecDepth 20000 in
theorem ggX5_lasts_X4_daysUntilOff : GoodIn wsX5_lasts wsX4_daysUntilOff := goodIn_r _ [11, 12, 13, 14, 3, 4, 5, 6, 7, 15, 16, 17, 18, 19, 20, 21, 22, 23, 24, 25, 26, 27, 28, 29, 30, 31, 32, 33, 34, 35, 36, 37, 38, 45, 46, 47, 48, 49, 50, 51, 52, 53, 54, 55, 56, 57, 58, 59] (by decide +kernel) (by decide +kernel)
set_option maxRecDepth 20000 in
theorem gX5_lasts_X4_daysUntilOff : GoodIn wsX5_lasts (wsV RX5 172 RX4 yX4_daysUntilOff wsX4_daysUntilOff) := goodIn_app (goodIn_of _ (by decide +kernel)) ggX5_lasts_X4_daysUntilOff
theorem dX5_lasts_0 : decode cX5_lasts 0 = .ok (.aload_n 0, 1) := by decide +kernel
theorem dX5_lasts_1 : decode cX5_lasts 1 = .ok (.getfield 12, 3) := by decide +kernel
theorem dX5_lasts_4 : decode cX5_lasts 4 = .ok (.iload_n 1, 1) := by decide +kernel
theorem dX5_lasts_5 : decode cX5_lasts 5 = .ok (.invokevirtual 80, 3) := by decide +kernel
theorem dX5_lasts_8 : decode cX5_lasts 8 = .ok (.ifCond .eq 14, 3) := by decide +kernel
theorem dX5_lasts_11 : decode cX5_lasts 11 = .ok (.aload_n 0, 1) := by decide +kernel
theorem dX5_lasts_12 : decode cX5_lasts 12 = .ok (.getfield 12, 3) := by decide +kernel
theorem dX5_lasts_15 : decode cX5_lasts 15 = .ok (.iload_n 1, 1) := by decide +kernel
theorem dX5_lasts_16 : decode cX5_lasts 16 = .ok (.invokevirtual 172, 3) := by decide +kernel
theorem dX5_lasts_19 : decode cX5_lasts 19 = .ok (.goto 4, 3) := by decide +kernel
theorem dX5_lasts_22 : decode cX5_lasts 22 = .ok (.iconst (-1), 1) := by decide +kernel
theorem dX5_lasts_23 : decode cX5_lasts 23 = .ok (.ireturn, 1) := by decide +kernel
set_option maxRecDepth 20000 in
theorem ggX5_needs_X4_rankOf : GoodIn wsX5_needs wsX4_rankOf := goodIn_r _ [7, 8, 9, 10, 11, 6, 12, 13, 14, 15, 16, 17, 18, 19, 20, 21, 22, 23, 24, 25, 26, 27, 28, 29, 30, 31, 32, 33, 34, 35, 36, 37, 38, 39, 40, 41, 42, 49, 50, 51, 52, 53, 54, 55, 56, 57, 58, 59, 60, 61, 62, 63] (by decide +kernel) (by decide +kernel)
set_option maxRecDepth 20000 in
theorem gX5_needs_X4_rankOf : GoodIn wsX5_needs (wsV RX5 175 RX4 yX4_rankOf wsX4_rankOf) := goodIn_app (goodIn_of _ (by decide +kernel)) ggX5_needs_X4_rankOf
theorem dX5_needs_0 : decode cX5_needs 0 = .ok (.iconst 0, 1) := by decide +kernel
theorem dX5_needs_1 : decode cX5_needs 1 = .ok (.istore_n 2, 1) := by decide +kernel
theorem dX5_needs_2 : decode cX5_needs 2 = .ok (.iload_n 2, 1) := by decide +kernel
theorem dX5_needs_3 : decode cX5_needs 3 = .ok (.aload_n 0, 1) := by decide +kernel
theorem dX5_needs_4 : decode cX5_needs 4 = .ok (.getfield 12, 3) := by decide +kernel
theorem dX5_needs_7 : decode cX5_needs 7 = .ok (.getfield 141, 3) := by decide +kernel
theorem dX5_needs_10 : decode cX5_needs 10 = .ok (.if_icmp .ge 23, 3) := by decide +kernel
theorem dX5_needs_13 : decode cX5_needs 13 = .ok (.aload_n 0, 1) := by decide +kernel
theorem dX5_needs_14 : decode cX5_needs 14 = .ok (.getfield 12, 3) := by decide +kernel
theorem dX5_needs_17 : decode cX5_needs 17 = .ok (.iload_n 2, 1) := by decide +kernel
theorem dX5_needs_18 : decode cX5_needs 18 = .ok (.invokevirtual 175, 3) := by decide +kernel
theorem dX5_needs_21 : decode cX5_needs 21 = .ok (.iload_n 1, 1) := by decide +kernel
theorem dX5_needs_22 : decode cX5_needs 22 = .ok (.if_icmp .ne 5, 3) := by decide +kernel
theorem dX5_needs_25 : decode cX5_needs 25 = .ok (.iload_n 2, 1) := by decide +kernel
theorem dX5_needs_26 : decode cX5_needs 26 = .ok (.ireturn, 1) := by decide +kernel
theorem dX5_needs_27 : decode cX5_needs 27 = .ok (.iinc 2 1, 3) := by decide +kernel
theorem dX5_needs_30 : decode cX5_needs 30 = .ok (.goto (-28), 3) := by decide +kernel
theorem dX5_needs_33 : decode cX5_needs 33 = .ok (.iconst (-1), 1) := by decide +kernel
theorem dX5_needs_34 : decode cX5_needs 34 = .ok (.ireturn, 1) := by decide +kernel
set_option maxRecDepth 20000 in
theorem ggX5_ladderFor_X4_rungsOutOfReach : GoodIn wsX5_ladderFor wsX4_rungsOutOfReach := goodIn_r _ [7, 8, 9, 10, 11, 12, 13, 14, 15, 16, 17, 6, 18, 19, 20, 21, 22, 23, 24, 31, 32, 33, 34, 35, 36, 37, 38, 39, 40, 41, 42, 43, 44, 45] (by decide +kernel) (by decide +kernel)
set_option maxRecDepth 20000 in
theorem gX5_ladderFor_X4_rungsOutOfReach : GoodIn wsX5_ladderFor (wsV RX5 178 RX4 yX4_rungsOutOfReach wsX4_rungsOutOfReach) := goodIn_app (goodIn_of _ (by decide +kernel)) ggX5_ladderFor_X4_rungsOutOfReach
theorem dX5_ladderFor_0 : decode cX5_ladderFor 0 = .ok (.aload_n 0, 1) := by decide +kernel
theorem dX5_ladderFor_1 : decode cX5_ladderFor 1 = .ok (.getfield 12, 3) := by decide +kernel
theorem dX5_ladderFor_4 : decode cX5_ladderFor 4 = .ok (.getfield 144, 3) := by decide +kernel
theorem dX5_ladderFor_7 : decode cX5_ladderFor 7 = .ok (.iconst 4, 1) := by decide +kernel
theorem dX5_ladderFor_8 : decode cX5_ladderFor 8 = .ok (.if_icmp .lt 6, 3) := by decide +kernel
theorem dX5_ladderFor_11 : decode cX5_ladderFor 11 = .ok (.bipush (-4), 2) := by decide +kernel
theorem dX5_ladderFor_13 : decode cX5_ladderFor 13 = .ok (.ireturn, 1) := by decide +kernel
theorem dX5_ladderFor_14 : decode cX5_ladderFor 14 = .ok (.aload_n 0, 1) := by decide +kernel
theorem dX5_ladderFor_15 : decode cX5_ladderFor 15 = .ok (.getfield 12, 3) := by decide +kernel
theorem dX5_ladderFor_18 : decode cX5_ladderFor 18 = .ok (.invokevirtual 178, 3) := by decide +kernel
theorem dX5_ladderFor_21 : decode cX5_ladderFor 21 = .ok (.istore_n 1, 1) := by decide +kernel
theorem dX5_ladderFor_22 : decode cX5_ladderFor 22 = .ok (.iload_n 1, 1) := by decide +kernel
theorem dX5_ladderFor_23 : decode cX5_ladderFor 23 = .ok (.ifCond .ne 8, 3) := by decide +kernel
theorem dX5_ladderFor_26 : decode cX5_ladderFor 26 = .ok (.bipush (-6), 2) := by decide +kernel
theorem dX5_ladderFor_28 : decode cX5_ladderFor 28 = .ok (.goto 4, 3) := by decide +kernel
theorem dX5_ladderFor_31 : decode cX5_ladderFor 31 = .ok (.iload_n 1, 1) := by decide +kernel
theorem dX5_ladderFor_32 : decode cX5_ladderFor 32 = .ok (.ireturn, 1) := by decide +kernel
set_option maxRecDepth 20000 in
theorem ggX5_wayRound_X5_chooseRow : GoodIn wsX5_wayRound wsX5_chooseRow := goodIn_r _ [7, 2, 1, 8, 9, 10, 11, 12, 13, 14, 15, 16, 17, 18, 19, 20, 58, 59, 60, 61, 62, 63, 64, 65, 66, 67, 68, 69, 70, 71, 72] (by decide +kernel) (by decide +kernel)
set_option maxRecDepth 20000 in
theorem gX5_wayRound_X5_chooseRow : GoodIn wsX5_wayRound (wsV RX5 67 RX5 yX5_chooseRow wsX5_chooseRow) := goodIn_app (goodIn_of _ (by decide +kernel)) ggX5_wayRound_X5_chooseRow
set_option maxRecDepth 20000 in
theorem ggX5_wayRound_X4_minutesOf : GoodIn wsX5_wayRound wsX4_minutesOf := goodIn_r _ [25, 26, 27, 28, 29, 30, 31, 32, 33, 34, 35, 36, 13, 37, 15, 20, 38, 39, 40, 24, 41, 42, 43, 44, 45, 46, 47, 48, 49, 50, 51, 52, 53, 71, 72, 64, 65, 66, 67, 68, 69, 70, 73, 74, 75, 76, 77, 78, 79, 80] (by decide +kernel) (by decide +kernel)
set_option maxRecDepth 20000 in
theorem gX5_wayRound_X4_minutesOf : GoodIn wsX5_wayRound (wsV RX5 169 RX4 yX4_minutesOf wsX4_minutesOf) := goodIn_app (goodIn_of _ (by decide +kernel)) ggX5_wayRound_X4_minutesOf
set_option maxRecDepth 20000 in
theorem ggX5_wayRound_X3_turnRound : GoodIn wsX5_wayRound wsX3_turnRound := goodIn_r _ [57, 15, 20, 71, 72] (by decide +kernel) (by decide +kernel)
set_option maxRecDepth 20000 in
theorem gX5_wayRound_X3_turnRound : GoodIn wsX5_wayRound (wsV RX5 181 RX3 yX3_turnRound wsX3_turnRound) := goodIn_app (goodIn_of _ (by decide +kernel)) ggX5_wayRound_X3_turnRound
theorem dX5_wayRound_0 : decode cX5_wayRound 0 = .ok (.aload_n 0, 1) := by decide +kernel
theorem dX5_wayRound_1 : decode cX5_wayRound 1 = .ok (.iload_n 1, 1) := by decide +kernel
theorem dX5_wayRound_2 : decode cX5_wayRound 2 = .ok (.invokevirtual 67, 3) := by decide +kernel
theorem dX5_wayRound_5 : decode cX5_wayRound 5 = .ok (.istore_n 2, 1) := by decide +kernel
theorem dX5_wayRound_6 : decode cX5_wayRound 6 = .ok (.iload_n 2, 1) := by decide +kernel
theorem dX5_wayRound_7 : decode cX5_wayRound 7 = .ok (.ifCond .ge 5, 3) := by decide +kernel
theorem dX5_wayRound_10 : decode cX5_wayRound 10 = .ok (.iload_n 2, 1) := by decide +kernel
theorem dX5_wayRound_11 : decode cX5_wayRound 11 = .ok (.ireturn, 1) := by decide +kernel
theorem dX5_wayRound_12 : decode cX5_wayRound 12 = .ok (.aload_n 0, 1) := by decide +kernel
theorem dX5_wayRound_13 : decode cX5_wayRound 13 = .ok (.getfield 12, 3) := by decide +kernel
theorem dX5_wayRound_16 : decode cX5_wayRound 16 = .ok (.aload_n 0, 1) := by decide +kernel
theorem dX5_wayRound_17 : decode cX5_wayRound 17 = .ok (.getfield 41, 3) := by decide +kernel
theorem dX5_wayRound_20 : decode cX5_wayRound 20 = .ok (.invokevirtual 169, 3) := by decide +kernel
theorem dX5_wayRound_23 : decode cX5_wayRound 23 = .ok (.istore_n 3, 1) := by decide +kernel
theorem dX5_wayRound_24 : decode cX5_wayRound 24 = .ok (.aload_n 0, 1) := by decide +kernel
theorem dX5_wayRound_25 : decode cX5_wayRound 25 = .ok (.getfield 41, 3) := by decide +kernel
theorem dX5_wayRound_28 : decode cX5_wayRound 28 = .ok (.invokevirtual 181, 3) := by decide +kernel
theorem dX5_wayRound_31 : decode cX5_wayRound 31 = .ok (.aload_n 0, 1) := by decide +kernel
theorem dX5_wayRound_32 : decode cX5_wayRound 32 = .ok (.getfield 12, 3) := by decide +kernel
theorem dX5_wayRound_35 : decode cX5_wayRound 35 = .ok (.aload_n 0, 1) := by decide +kernel
theorem dX5_wayRound_36 : decode cX5_wayRound 36 = .ok (.getfield 41, 3) := by decide +kernel
theorem dX5_wayRound_39 : decode cX5_wayRound 39 = .ok (.invokevirtual 169, 3) := by decide +kernel
theorem dX5_wayRound_42 : decode cX5_wayRound 42 = .ok (.istore 4, 2) := by decide +kernel
theorem dX5_wayRound_44 : decode cX5_wayRound 44 = .ok (.iload_n 3, 1) := by decide +kernel
theorem dX5_wayRound_45 : decode cX5_wayRound 45 = .ok (.iload 4, 2) := by decide +kernel
theorem dX5_wayRound_47 : decode cX5_wayRound 47 = .ok (.if_icmp .ne 5, 3) := by decide +kernel
theorem dX5_wayRound_50 : decode cX5_wayRound 50 = .ok (.iconst 2, 1) := by decide +kernel
theorem dX5_wayRound_51 : decode cX5_wayRound 51 = .ok (.ireturn, 1) := by decide +kernel
theorem dX5_wayRound_52 : decode cX5_wayRound 52 = .ok (.iload_n 3, 1) := by decide +kernel
theorem dX5_wayRound_53 : decode cX5_wayRound 53 = .ok (.iload 4, 2) := by decide +kernel
theorem dX5_wayRound_55 : decode cX5_wayRound 55 = .ok (.if_icmp .ge 7, 3) := by decide +kernel
theorem dX5_wayRound_58 : decode cX5_wayRound 58 = .ok (.iconst 0, 1) := by decide +kernel
theorem dX5_wayRound_59 : decode cX5_wayRound 59 = .ok (.goto 4, 3) := by decide +kernel
theorem dX5_wayRound_62 : decode cX5_wayRound 62 = .ok (.iconst 1, 1) := by decide +kernel
theorem dX5_wayRound_63 : decode cX5_wayRound 63 = .ok (.ireturn, 1) := by decide +kernel
set_option maxRecDepth 20000 in
theorem ggX5_put_X5_signsIn : GoodIn wsX5_put wsX5_signsIn := goodIn_r _ [6, 7, 8, 5, 9] (by decide +kernel) (by decide +kernel)
set_option maxRecDepth 20000 in
theorem gX5_put_X5_signsIn : GoodIn wsX5_put (va_wsS RX5 184 yX5_signsIn wsX5_signsIn) := goodIn_app (goodIn_of _ (by decide +kernel)) ggX5_put_X5_signsIn
set_option maxRecDepth 20000 in
theorem ggX5_put_X5_codeAt : GoodIn wsX5_put wsX5_codeAt := goodIn_r _ [9] (by decide +kernel) (by decide +kernel)
set_option maxRecDepth 20000 in
theorem gX5_put_X5_codeAt : GoodIn wsX5_put (va_wsS RX5 188 yX5_codeAt wsX5_codeAt) := goodIn_app (goodIn_of _ (by decide +kernel)) ggX5_put_X5_codeAt
set_option maxRecDepth 20000 in
theorem ggX5_put_X2_append : GoodIn wsX5_put wsX2_append := goodIn_r _ [14, 15, 16, 23, 24, 25, 26, 27] (by decide +kernel) (by decide +kernel)
set_option maxRecDepth 20000 in
theorem gX5_put_X2_append : GoodIn wsX5_put (wsV RX5 192 RX2 yX2_append wsX2_append) := goodIn_app (goodIn_of _ (by decide +kernel)) ggX5_put_X2_append
theorem dX5_put_0 : decode cX5_put 0 = .ok (.lload_n 1, 1) := by decide +kernel
theorem dX5_put_1 : decode cX5_put 1 = .ok (.invokestatic 184, 3) := by decide +kernel
theorem dX5_put_4 : decode cX5_put 4 = .ok (.istore_n 3, 1) := by decide +kernel
theorem dX5_put_5 : decode cX5_put 5 = .ok (.iload_n 3, 1) := by decide +kernel
theorem dX5_put_6 : decode cX5_put 6 = .ok (.ifCond .ne 6, 3) := by decide +kernel
theorem dX5_put_9 : decode cX5_put 9 = .ok (.bipush (-2), 2) := by decide +kernel
theorem dX5_put_11 : decode cX5_put 11 = .ok (.ireturn, 1) := by decide +kernel
theorem dX5_put_12 : decode cX5_put 12 = .ok (.aload_n 0, 1) := by decide +kernel
theorem dX5_put_13 : decode cX5_put 13 = .ok (.getfield 34, 3) := by decide +kernel
theorem dX5_put_16 : decode cX5_put 16 = .ok (.getfield 163, 3) := by decide +kernel
theorem dX5_put_19 : decode cX5_put 19 = .ok (.iload_n 3, 1) := by decide +kernel
theorem dX5_put_20 : decode cX5_put 20 = .ok (.iadd, 1) := by decide +kernel
theorem dX5_put_21 : decode cX5_put 21 = .ok (.bipush 80, 2) := by decide +kernel
theorem dX5_put_23 : decode cX5_put 23 = .ok (.if_icmp .le 6, 3) := by decide +kernel
theorem dX5_put_26 : decode cX5_put 26 = .ok (.bipush (-4), 2) := by decide +kernel
theorem dX5_put_28 : decode cX5_put 28 = .ok (.ireturn, 1) := by decide +kernel
theorem dX5_put_29 : decode cX5_put 29 = .ok (.iload_n 3, 1) := by decide +kernel
theorem dX5_put_30 : decode cX5_put 30 = .ok (.iconst 1, 1) := by decide +kernel
theorem dX5_put_31 : decode cX5_put 31 = .ok (.isub, 1) := by decide +kernel
theorem dX5_put_32 : decode cX5_put 32 = .ok (.istore 4, 2) := by decide +kernel
theorem dX5_put_34 : decode cX5_put 34 = .ok (.iload 4, 2) := by decide +kernel
theorem dX5_put_36 : decode cX5_put 36 = .ok (.ifCond .lt 23, 3) := by decide +kernel
theorem dX5_put_39 : decode cX5_put 39 = .ok (.aload_n 0, 1) := by decide +kernel
theorem dX5_put_40 : decode cX5_put 40 = .ok (.getfield 34, 3) := by decide +kernel
theorem dX5_put_43 : decode cX5_put 43 = .ok (.lload_n 1, 1) := by decide +kernel
theorem dX5_put_44 : decode cX5_put 44 = .ok (.iload 4, 2) := by decide +kernel
theorem dX5_put_46 : decode cX5_put 46 = .ok (.invokestatic 188, 3) := by decide +kernel
theorem dX5_put_49 : decode cX5_put 49 = .ok (.i2c, 1) := by decide +kernel
theorem dX5_put_50 : decode cX5_put 50 = .ok (.invokevirtual 192, 3) := by decide +kernel
theorem dX5_put_53 : decode cX5_put 53 = .ok (.iinc 4 (-1), 3) := by decide +kernel
theorem dX5_put_56 : decode cX5_put 56 = .ok (.goto (-22), 3) := by decide +kernel
theorem dX5_put_59 : decode cX5_put 59 = .ok (.aload_n 0, 1) := by decide +kernel
theorem dX5_put_60 : decode cX5_put 60 = .ok (.getfield 34, 3) := by decide +kernel
theorem dX5_put_63 : decode cX5_put 63 = .ok (.getfield 163, 3) := by decide +kernel
theorem dX5_put_66 : decode cX5_put 66 = .ok (.ireturn, 1) := by decide +kernel
theorem dX5_wipe_0 : decode cX5_wipe 0 = .ok (.aload_n 0, 1) := by decide +kernel
theorem dX5_wipe_1 : decode cX5_wipe 1 = .ok (.getfield 34, 3) := by decide +kernel
theorem dX5_wipe_4 : decode cX5_wipe 4 = .ok (.getfield 163, 3) := by decide +kernel
theorem dX5_wipe_7 : decode cX5_wipe 7 = .ok (.istore_n 1, 1) := by decide +kernel
theorem dX5_wipe_8 : decode cX5_wipe 8 = .ok (.aload_n 0, 1) := by decide +kernel
theorem dX5_wipe_9 : decode cX5_wipe 9 = .ok (.getfield 34, 3) := by decide +kernel
theorem dX5_wipe_12 : decode cX5_wipe 12 = .ok (.iconst 0, 1) := by decide +kernel
theorem dX5_wipe_13 : decode cX5_wipe 13 = .ok (.putfield 163, 3) := by decide +kernel
theorem dX5_wipe_16 : decode cX5_wipe 16 = .ok (.iload_n 1, 1) := by decide +kernel
theorem dX5_wipe_17 : decode cX5_wipe 17 = .ok (.ireturn, 1) := by decide +kernel
set_option maxRecDepth 20000 in
theorem ggX5_fault_X2_findFault : GoodIn wsX5_fault wsX2_findFault := goodIn_r _ [6, 7, 8, 9, 10, 11, 5, 12, 13, 14, 15, 16, 17, 18, 19, 20, 21, 22, 23, 24, 25, 26, 27, 28, 29, 30, 31, 32, 33, 34, 35, 36, 37, 38, 39, 40, 41, 42, 43, 44, 45, 46, 47, 48, 49, 50, 51, 52, 53, 60, 61, 62, 63, 64, 65, 66] (by decide +kernel) (by decide +kernel)
set_option maxRecDepth 20000 in
theorem gX5_fault_X2_findFault : GoodIn wsX5_fault (wsV RX5 196 RX2 yX2_findFault wsX2_findFault) := goodIn_app (goodIn_of _ (by decide +kernel)) ggX5_fault_X2_findFault
theorem dX5_fault_0 : decode cX5_fault 0 = .ok (.aload_n 0, 1) := by decide +kernel
theorem dX5_fault_1 : decode cX5_fault 1 = .ok (.getfield 34, 3) := by decide +kernel
theorem dX5_fault_4 : decode cX5_fault 4 = .ok (.invokevirtual 196, 3) := by decide +kernel
theorem dX5_fault_7 : decode cX5_fault 7 = .ok (.ireturn, 1) := by decide +kernel
set_option maxRecDepth 20000 in
theorem ggX5_carryOut_X2_findFault : GoodIn wsX5_carryOut wsX2_findFault := goodIn_r _ [9, 10, 11, 12, 13, 14, 8, 15, 16, 17, 18, 19, 20, 21, 22, 23, 24, 25, 26, 27, 28, 29, 30, 31, 32, 33, 34, 35, 36, 37, 38, 39, 40, 41, 42, 43, 44, 45, 46, 47, 48, 49, 50, 51, 52, 53, 54, 55, 56, 206, 207, 208, 209, 210, 211, 212] (by decide +kernel) (by decide +kernel)
set_option maxRecDepth 20000 in
theorem gX5_carryOut_X2_findFault : GoodIn wsX5_carryOut (wsV RX5 196 RX2 yX2_findFault wsX2_findFault) := goodIn_app (goodIn_of _ (by decide +kernel)) ggX5_carryOut_X2_findFault
set_option maxRecDepth 20000 in
theorem ggX5_carryOut_X1_prepare : GoodIn wsX5_carryOut wsX1_prepare := goodIn_r _ [61, 62, 63, 64, 65, 66, 67, 68, 69, 70, 71, 72, 73, 74, 75, 76, 77, 78, 79, 80, 81, 82, 83, 84, 85, 86, 87, 88, 89, 90, 91, 92, 213, 214, 215, 216, 217, 218, 219, 220, 221, 222, 223, 224, 225, 226, 227, 228, 229] (by decide +kernel) (by decide +kernel)
set_option maxRecDepth 20000 in
theorem gX5_carryOut_X1_prepare : GoodIn wsX5_carryOut (wsV RX5 45 RX1 yX1_prepare wsX1_prepare) := goodIn_app (goodIn_of _ (by decide +kernel)) ggX5_carryOut_X1_prepare
set_option maxRecDepth 20000 in
theorem ggX5_carryOut_X5_carryOrdersOut : GoodIn wsX5_carryOut wsX5_carryOrdersOut := goodIn_r _ [97, 1, 98, 13, 14, 8, 15, 10, 99, 17, 18, 19, 20, 21, 22, 23, 24, 25, 26, 27, 28, 29, 11, 30, 31, 32, 33, 34, 35, 36, 37, 38, 39, 40, 41, 42, 43, 44, 45, 46, 47, 48, 49, 50, 51, 52, 53, 54, 55, 56, 100, 101, 102, 96, 103, 104, 105, 3, 106, 107, 108, 109, 110, 111, 112, 67, 113, 75, 76, 114, 115, 116, 117, 118, 83, 119, 85, 86, 87, 88, 89, 90, 91, 92, 120, 121, 122, 123, 77, 74, 124, 125, 126, 127, 128, 69, 79, 129, 130, 131, 132, 133, 134, 135, 136, 137, 138, 139, 140, 141, 142, 143, 144, 145, 146, 147, 148, 149, 150, 151, 152, 153, 154, 155, 156, 157, 158, 159, 160, 161, 162, 163, 164, 165, 166, 167, 168, 169, 170, 171, 172, 78, 173, 174, 175, 176, 177, 178, 179, 180, 181, 182, 183, 184, 185, 186, 187, 200, 201, 202, 203, 204, 205, 206, 207, 208, 209, 210, 211, 212, 215, 216, 217, 218, 219, 220, 221, 222, 223, 224, 225, 226, 227, 228, 229] (by decide +kernel) (by decide +kernel)
set_option maxRecDepth 20000 in
theorem gX5_carryOut_X5_carryOrdersOut : GoodIn wsX5_carryOut (wsV RX5 199 RX5 yX5_carryOrdersOut wsX5_carryOrdersOut) := goodIn_app (goodIn_of _ (by decide +kernel)) ggX5_carryOut_X5_carryOrdersOut
set_option maxRecDepth 20000 in
theorem ggX5_carryOut_X5_keptIfDone : GoodIn wsX5_carryOut wsX5_keptIfDone := goodIn_r _ [191, 2, 192, 193, 194, 60, 195, 63, 196, 197, 198, 199, 62, 200, 201, 202, 203, 204, 205, 213, 214] (by decide +kernel) (by decide +kernel)
set_option maxRecDepth 20000 in
theorem gX5_carryOut_X5_keptIfDone : GoodIn wsX5_carryOut (wsV RX5 53 RX5 yX5_keptIfDone wsX5_keptIfDone) := goodIn_app (goodIn_of _ (by decide +kernel)) ggX5_carryOut_X5_keptIfDone
theorem dX5_carryOut_0 : decode cX5_carryOut 0 = .ok (.aload_n 0, 1) := by decide +kernel
theorem dX5_carryOut_1 : decode cX5_carryOut 1 = .ok (.getfield 34, 3) := by decide +kernel
theorem dX5_carryOut_4 : decode cX5_carryOut 4 = .ok (.invokevirtual 196, 3) := by decide +kernel
theorem dX5_carryOut_7 : decode cX5_carryOut 7 = .ok (.bipush (-6), 2) := by decide +kernel
theorem dX5_carryOut_9 : decode cX5_carryOut 9 = .ok (.if_icmp .eq 6, 3) := by decide +kernel
theorem dX5_carryOut_12 : decode cX5_carryOut 12 = .ok (.bipush (-3), 2) := by decide +kernel
theorem dX5_carryOut_14 : decode cX5_carryOut 14 = .ok (.ireturn, 1) := by decide +kernel
theorem dX5_carryOut_15 : decode cX5_carryOut 15 = .ok (.aload_n 0, 1) := by decide +kernel
theorem dX5_carryOut_16 : decode cX5_carryOut 16 = .ok (.getfield 19, 3) := by decide +kernel
theorem dX5_carryOut_19 : decode cX5_carryOut 19 = .ok (.aload_n 0, 1) := by decide +kernel
theorem dX5_carryOut_20 : decode cX5_carryOut 20 = .ok (.getfield 12, 3) := by decide +kernel
theorem dX5_carryOut_23 : decode cX5_carryOut 23 = .ok (.invokevirtual 45, 3) := by decide +kernel
theorem dX5_carryOut_26 : decode cX5_carryOut 26 = .ok (.aload_n 0, 1) := by decide +kernel
theorem dX5_carryOut_27 : decode cX5_carryOut 27 = .ok (.invokevirtual 199, 3) := by decide +kernel
theorem dX5_carryOut_30 : decode cX5_carryOut 30 = .ok (.istore_n 1, 1) := by decide +kernel
theorem dX5_carryOut_31 : decode cX5_carryOut 31 = .ok (.aload_n 0, 1) := by decide +kernel
theorem dX5_carryOut_32 : decode cX5_carryOut 32 = .ok (.getfield 34, 3) := by decide +kernel
theorem dX5_carryOut_35 : decode cX5_carryOut 35 = .ok (.iconst 0, 1) := by decide +kernel
theorem dX5_carryOut_36 : decode cX5_carryOut 36 = .ok (.putfield 163, 3) := by decide +kernel
theorem dX5_carryOut_39 : decode cX5_carryOut 39 = .ok (.aload_n 0, 1) := by decide +kernel
theorem dX5_carryOut_40 : decode cX5_carryOut 40 = .ok (.iload_n 1, 1) := by decide +kernel
theorem dX5_carryOut_41 : decode cX5_carryOut 41 = .ok (.invokevirtual 53, 3) := by decide +kernel
theorem dX5_carryOut_44 : decode cX5_carryOut 44 = .ok (.ireturn, 1) := by decide +kernel
set_option maxRecDepth 20000 in
theorem ggX5_undo_X1_takeBack : GoodIn wsX5_undo wsX1_takeBack := goodIn_r _ [8, 9, 10, 11, 12, 13, 14, 15, 16, 17, 18, 19, 20, 21, 22, 23, 24, 25, 26, 27, 28, 29, 30, 31, 32, 33, 34, 35, 36, 37, 38, 39, 46, 47, 48, 49, 50, 51, 52, 53, 54, 55, 56, 57, 58, 59, 60, 61, 62] (by decide +kernel) (by decide +kernel)
set_option maxRecDepth 20000 in
theorem gX5_undo_X1_takeBack : GoodIn wsX5_undo (wsV RX5 202 RX1 yX1_takeBack wsX1_takeBack) := goodIn_app (goodIn_of _ (by decide +kernel)) ggX5_undo_X1_takeBack
theorem dX5_undo_0 : decode cX5_undo 0 = .ok (.aload_n 0, 1) := by decide +kernel
theorem dX5_undo_1 : decode cX5_undo 1 = .ok (.getfield 19, 3) := by decide +kernel
theorem dX5_undo_4 : decode cX5_undo 4 = .ok (.aload_n 0, 1) := by decide +kernel
theorem dX5_undo_5 : decode cX5_undo 5 = .ok (.getfield 12, 3) := by decide +kernel
theorem dX5_undo_8 : decode cX5_undo 8 = .ok (.invokevirtual 202, 3) := by decide +kernel
theorem dX5_undo_11 : decode cX5_undo 11 = .ok (.ifCond .eq 13, 3) := by decide +kernel
theorem dX5_undo_14 : decode cX5_undo 14 = .ok (.aload_n 0, 1) := by decide +kernel
theorem dX5_undo_15 : decode cX5_undo 15 = .ok (.getfield 19, 3) := by decide +kernel
theorem dX5_undo_18 : decode cX5_undo 18 = .ok (.getfield 166, 3) := by decide +kernel
theorem dX5_undo_21 : decode cX5_undo 21 = .ok (.goto 5, 3) := by decide +kernel
theorem dX5_undo_24 : decode cX5_undo 24 = .ok (.bipush (-5), 2) := by decide +kernel
theorem dX5_undo_26 : decode cX5_undo 26 = .ok (.ireturn, 1) := by decide +kernel
set_option maxRecDepth 20000 in
theorem ggX5_save_X4_copyFrom : GoodIn wsX5_save wsX4_copyFrom := goodIn_r _ [9, 10, 11, 12, 13, 14, 15, 16, 17, 18, 19, 20, 21, 22, 23, 24, 25, 26, 27, 28, 29, 30, 31, 32, 33, 40, 41, 42, 43, 44, 45, 46, 47, 48, 49, 50, 51, 52, 53, 54] (by decide +kernel) (by decide +kernel)
set_option maxRecDepth 20000 in
theorem gX5_save_X4_copyFrom : GoodIn wsX5_save (wsV RX5 206 RX4 yX4_copyFrom wsX4_copyFrom) := goodIn_app (goodIn_of _ (by decide +kernel)) ggX5_save_X4_copyFrom
theorem dX5_save_0 : decode cX5_save 0 = .ok (.iload_n 1, 1) := by decide +kernel
theorem dX5_save_1 : decode cX5_save 1 = .ok (.ifCond .lt 8, 3) := by decide +kernel
theorem dX5_save_4 : decode cX5_save 4 = .ok (.iload_n 1, 1) := by decide +kernel
theorem dX5_save_5 : decode cX5_save 5 = .ok (.iconst 2, 1) := by decide +kernel
theorem dX5_save_6 : decode cX5_save 6 = .ok (.if_icmp .lt 6, 3) := by decide +kernel
theorem dX5_save_9 : decode cX5_save 9 = .ok (.bipush (-2), 2) := by decide +kernel
theorem dX5_save_11 : decode cX5_save 11 = .ok (.ireturn, 1) := by decide +kernel
theorem dX5_save_12 : decode cX5_save 12 = .ok (.aload_n 0, 1) := by decide +kernel
theorem dX5_save_13 : decode cX5_save 13 = .ok (.getfield 23, 3) := by decide +kernel
theorem dX5_save_16 : decode cX5_save 16 = .ok (.iload_n 1, 1) := by decide +kernel
theorem dX5_save_17 : decode cX5_save 17 = .ok (.aaload, 1) := by decide +kernel
theorem dX5_save_18 : decode cX5_save 18 = .ok (.aload_n 0, 1) := by decide +kernel
theorem dX5_save_19 : decode cX5_save 19 = .ok (.getfield 12, 3) := by decide +kernel
theorem dX5_save_22 : decode cX5_save 22 = .ok (.invokevirtual 206, 3) := by decide +kernel
theorem dX5_save_25 : decode cX5_save 25 = .ok (.aload_n 0, 1) := by decide +kernel
theorem dX5_save_26 : decode cX5_save 26 = .ok (.getfield 27, 3) := by decide +kernel
theorem dX5_save_29 : decode cX5_save 29 = .ok (.iload_n 1, 1) := by decide +kernel
theorem dX5_save_30 : decode cX5_save 30 = .ok (.iconst 1, 1) := by decide +kernel
theorem dX5_save_31 : decode cX5_save 31 = .ok (.bastore, 1) := by decide +kernel
theorem dX5_save_32 : decode cX5_save 32 = .ok (.aload_n 0, 1) := by decide +kernel
theorem dX5_save_33 : decode cX5_save 33 = .ok (.getfield 12, 3) := by decide +kernel
theorem dX5_save_36 : decode cX5_save 36 = .ok (.getfield 141, 3) := by decide +kernel
theorem dX5_save_39 : decode cX5_save 39 = .ok (.ireturn, 1) := by decide +kernel
set_option maxRecDepth 20000 in
theorem ggX5_restore_X1_prepare : GoodIn wsX5_restore wsX1_prepare := goodIn_r _ [10, 11, 12, 13, 14, 15, 16, 17, 18, 19, 20, 21, 22, 23, 24, 25, 26, 27, 28, 29, 30, 31, 32, 33, 34, 35, 36, 37, 38, 39, 40, 41, 69, 70, 62, 63, 64, 65, 66, 67, 68, 71, 72, 73, 74, 75, 76, 77, 78] (by decide +kernel) (by decide +kernel)
set_option maxRecDepth 20000 in
theorem gX5_restore_X1_prepare : GoodIn wsX5_restore (wsV RX5 45 RX1 yX1_prepare wsX1_prepare) := goodIn_app (goodIn_of _ (by decide +kernel)) ggX5_restore_X1_prepare
set_option maxRecDepth 20000 in
theorem ggX5_restore_X4_copyFrom : GoodIn wsX5_restore wsX4_copyFrom := goodIn_r _ [17, 18, 19, 20, 21, 22, 23, 24, 25, 26, 27, 28, 29, 30, 31, 32, 33, 34, 35, 36, 37, 38, 39, 40, 41, 62, 63, 64, 65, 66, 67, 68, 71, 72, 73, 74, 75, 76, 77, 78] (by decide +kernel) (by decide +kernel)
set_option maxRecDepth 20000 in
theorem gX5_restore_X4_copyFrom : GoodIn wsX5_restore (wsV RX5 206 RX4 yX4_copyFrom wsX4_copyFrom) := goodIn_app (goodIn_of _ (by decide +kernel)) ggX5_restore_X4_copyFrom
set_option maxRecDepth 20000 in
theorem ggX5_restore_X5_keptIfDone : GoodIn wsX5_restore wsX5_keptIfDone := goodIn_r _ [47, 2, 48, 49, 50, 9, 51, 12, 52, 53, 54, 55, 11, 56, 57, 58, 59, 60, 61, 69, 70] (by decide +kernel) (by decide +kernel)
set_option maxRecDepth 20000 in
theorem gX5_restore_X5_keptIfDone : GoodIn wsX5_restore (wsV RX5 53 RX5 yX5_keptIfDone wsX5_keptIfDone) := goodIn_app (goodIn_of _ (by decide +kernel)) ggX5_restore_X5_keptIfDone
theorem dX5_restore_0 : decode cX5_restore 0 = .ok (.iload_n 1, 1) := by decide +kernel
theorem dX5_restore_1 : decode cX5_restore 1 = .ok (.ifCond .lt 8, 3) := by decide +kernel
theorem dX5_restore_4 : decode cX5_restore 4 = .ok (.iload_n 1, 1) := by decide +kernel
theorem dX5_restore_5 : decode cX5_restore 5 = .ok (.iconst 2, 1) := by decide +kernel
theorem dX5_restore_6 : decode cX5_restore 6 = .ok (.if_icmp .lt 6, 3) := by decide +kernel
theorem dX5_restore_9 : decode cX5_restore 9 = .ok (.bipush (-2), 2) := by decide +kernel
theorem dX5_restore_11 : decode cX5_restore 11 = .ok (.ireturn, 1) := by decide +kernel
theorem dX5_restore_12 : decode cX5_restore 12 = .ok (.aload_n 0, 1) := by decide +kernel
theorem dX5_restore_13 : decode cX5_restore 13 = .ok (.getfield 27, 3) := by decide +kernel
theorem dX5_restore_16 : decode cX5_restore 16 = .ok (.iload_n 1, 1) := by decide +kernel
theorem dX5_restore_17 : decode cX5_restore 17 = .ok (.baload, 1) := by decide +kernel
theorem dX5_restore_18 : decode cX5_restore 18 = .ok (.ifCond .ne 6, 3) := by decide +kernel
theorem dX5_restore_21 : decode cX5_restore 21 = .ok (.bipush (-5), 2) := by decide +kernel
theorem dX5_restore_23 : decode cX5_restore 23 = .ok (.ireturn, 1) := by decide +kernel
theorem dX5_restore_24 : decode cX5_restore 24 = .ok (.aload_n 0, 1) := by decide +kernel
theorem dX5_restore_25 : decode cX5_restore 25 = .ok (.getfield 19, 3) := by decide +kernel
theorem dX5_restore_28 : decode cX5_restore 28 = .ok (.aload_n 0, 1) := by decide +kernel
theorem dX5_restore_29 : decode cX5_restore 29 = .ok (.getfield 12, 3) := by decide +kernel
theorem dX5_restore_32 : decode cX5_restore 32 = .ok (.invokevirtual 45, 3) := by decide +kernel
theorem dX5_restore_35 : decode cX5_restore 35 = .ok (.aload_n 0, 1) := by decide +kernel
theorem dX5_restore_36 : decode cX5_restore 36 = .ok (.getfield 12, 3) := by decide +kernel
theorem dX5_restore_39 : decode cX5_restore 39 = .ok (.aload_n 0, 1) := by decide +kernel
theorem dX5_restore_40 : decode cX5_restore 40 = .ok (.getfield 23, 3) := by decide +kernel
theorem dX5_restore_43 : decode cX5_restore 43 = .ok (.iload_n 1, 1) := by decide +kernel
theorem dX5_restore_44 : decode cX5_restore 44 = .ok (.aaload, 1) := by decide +kernel
theorem dX5_restore_45 : decode cX5_restore 45 = .ok (.invokevirtual 206, 3) := by decide +kernel
theorem dX5_restore_48 : decode cX5_restore 48 = .ok (.aload_n 0, 1) := by decide +kernel
theorem dX5_restore_49 : decode cX5_restore 49 = .ok (.aload_n 0, 1) := by decide +kernel
theorem dX5_restore_50 : decode cX5_restore 50 = .ok (.getfield 12, 3) := by decide +kernel
theorem dX5_restore_53 : decode cX5_restore 53 = .ok (.getfield 141, 3) := by decide +kernel
theorem dX5_restore_56 : decode cX5_restore 56 = .ok (.invokevirtual 53, 3) := by decide +kernel
theorem dX5_restore_59 : decode cX5_restore 59 = .ok (.ireturn, 1) := by decide +kernel
set_option maxRecDepth 20000 in
theorem ggX5_keptIfDone_X1_keepPrepared : GoodIn wsX5_keptIfDone wsX1_keepPrepared := goodIn_r _ [6, 7, 8, 9, 10, 5, 11, 12, 19, 20] (by decide +kernel) (by decide +kernel)
set_option maxRecDepth 20000 in
theorem gX5_keptIfDone_X1_keepPrepared : GoodIn wsX5_keptIfDone (wsV RX5 209 RX1 yX1_keepPrepared wsX1_keepPrepared) := goodIn_app (goodIn_of _ (by decide +kernel)) ggX5_keptIfDone_X1_keepPrepared
theorem dX5_keptIfDone_0 : decode cX5_keptIfDone 0 = .ok (.iload_n 1, 1) := by decide +kernel
theorem dX5_keptIfDone_1 : decode cX5_keptIfDone 1 = .ok (.ifCond .lt 10, 3) := by decide +kernel
theorem dX5_keptIfDone_4 : decode cX5_keptIfDone 4 = .ok (.aload_n 0, 1) := by decide +kernel
theorem dX5_keptIfDone_5 : decode cX5_keptIfDone 5 = .ok (.getfield 19, 3) := by decide +kernel
theorem dX5_keptIfDone_8 : decode cX5_keptIfDone 8 = .ok (.invokevirtual 209, 3) := by decide +kernel
theorem dX5_keptIfDone_11 : decode cX5_keptIfDone 11 = .ok (.iload_n 1, 1) := by decide +kernel
theorem dX5_keptIfDone_12 : decode cX5_keptIfDone 12 = .ok (.ireturn, 1) := by decide +kernel
set_option maxRecDepth 20000 in
theorem ggX5_chooseRow_X3_clear : GoodIn wsX5_chooseRow wsX3_clear := goodIn_r _ [9, 10, 29, 30] (by decide +kernel) (by decide +kernel)
set_option maxRecDepth 20000 in
theorem gX5_chooseRow_X3_clear : GoodIn wsX5_chooseRow (wsV RX5 212 RX3 yX3_clear wsX3_clear) := goodIn_app (goodIn_of _ (by decide +kernel)) ggX5_chooseRow_X3_clear
set_option maxRecDepth 20000 in
theorem ggX5_chooseRow_X3_add : GoodIn wsX5_chooseRow wsX3_add := goodIn_r _ [14, 10, 15, 29, 30] (by decide +kernel) (by decide +kernel)
set_option maxRecDepth 20000 in
theorem gX5_chooseRow_X3_add : GoodIn wsX5_chooseRow (wsV RX5 215 RX3 yX3_add wsX3_add) := goodIn_app (goodIn_of _ (by decide +kernel)) ggX5_chooseRow_X3_add
theorem dX5_chooseRow_0 : decode cX5_chooseRow 0 = .ok (.iload_n 1, 1) := by decide +kernel
theorem dX5_chooseRow_1 : decode cX5_chooseRow 1 = .ok (.ifCond .ge 6, 3) := by decide +kernel
theorem dX5_chooseRow_4 : decode cX5_chooseRow 4 = .ok (.bipush (-2), 2) := by decide +kernel
theorem dX5_chooseRow_6 : decode cX5_chooseRow 6 = .ok (.ireturn, 1) := by decide +kernel
theorem dX5_chooseRow_7 : decode cX5_chooseRow 7 = .ok (.aload_n 0, 1) := by decide +kernel
theorem dX5_chooseRow_8 : decode cX5_chooseRow 8 = .ok (.getfield 41, 3) := by decide +kernel
theorem dX5_chooseRow_11 : decode cX5_chooseRow 11 = .ok (.invokevirtual 212, 3) := by decide +kernel
theorem dX5_chooseRow_14 : decode cX5_chooseRow 14 = .ok (.iconst 0, 1) := by decide +kernel
theorem dX5_chooseRow_15 : decode cX5_chooseRow 15 = .ok (.istore_n 2, 1) := by decide +kernel
theorem dX5_chooseRow_16 : decode cX5_chooseRow 16 = .ok (.iload_n 2, 1) := by decide +kernel
theorem dX5_chooseRow_17 : decode cX5_chooseRow 17 = .ok (.aload_n 0, 1) := by decide +kernel
theorem dX5_chooseRow_18 : decode cX5_chooseRow 18 = .ok (.getfield 12, 3) := by decide +kernel
theorem dX5_chooseRow_21 : decode cX5_chooseRow 21 = .ok (.getfield 141, 3) := by decide +kernel
theorem dX5_chooseRow_24 : decode cX5_chooseRow 24 = .ok (.if_icmp .ge 27, 3) := by decide +kernel
theorem dX5_chooseRow_27 : decode cX5_chooseRow 27 = .ok (.iload_n 1, 1) := by decide +kernel
theorem dX5_chooseRow_28 : decode cX5_chooseRow 28 = .ok (.iload_n 2, 1) := by decide +kernel
theorem dX5_chooseRow_29 : decode cX5_chooseRow 29 = .ok (.ishr, 1) := by decide +kernel
theorem dX5_chooseRow_30 : decode cX5_chooseRow 30 = .ok (.iconst 1, 1) := by decide +kernel
theorem dX5_chooseRow_31 : decode cX5_chooseRow 31 = .ok (.iand, 1) := by decide +kernel
theorem dX5_chooseRow_32 : decode cX5_chooseRow 32 = .ok (.iconst 1, 1) := by decide +kernel
theorem dX5_chooseRow_33 : decode cX5_chooseRow 33 = .ok (.if_icmp .ne 12, 3) := by decide +kernel
theorem dX5_chooseRow_36 : decode cX5_chooseRow 36 = .ok (.aload_n 0, 1) := by decide +kernel
theorem dX5_chooseRow_37 : decode cX5_chooseRow 37 = .ok (.getfield 41, 3) := by decide +kernel
theorem dX5_chooseRow_40 : decode cX5_chooseRow 40 = .ok (.iload_n 2, 1) := by decide +kernel
theorem dX5_chooseRow_41 : decode cX5_chooseRow 41 = .ok (.invokevirtual 215, 3) := by decide +kernel
theorem dX5_chooseRow_44 : decode cX5_chooseRow 44 = .ok (.pop, 1) := by decide +kernel
theorem dX5_chooseRow_45 : decode cX5_chooseRow 45 = .ok (.iinc 2 1, 3) := by decide +kernel
theorem dX5_chooseRow_48 : decode cX5_chooseRow 48 = .ok (.goto (-32), 3) := by decide +kernel
theorem dX5_chooseRow_51 : decode cX5_chooseRow 51 = .ok (.aload_n 0, 1) := by decide +kernel
theorem dX5_chooseRow_52 : decode cX5_chooseRow 52 = .ok (.getfield 41, 3) := by decide +kernel
theorem dX5_chooseRow_55 : decode cX5_chooseRow 55 = .ok (.getfield 218, 3) := by decide +kernel
theorem dX5_chooseRow_58 : decode cX5_chooseRow 58 = .ok (.ifCond .ne 8, 3) := by decide +kernel
theorem dX5_chooseRow_61 : decode cX5_chooseRow 61 = .ok (.bipush (-5), 2) := by decide +kernel
theorem dX5_chooseRow_63 : decode cX5_chooseRow 63 = .ok (.goto 10, 3) := by decide +kernel
theorem dX5_chooseRow_66 : decode cX5_chooseRow 66 = .ok (.aload_n 0, 1) := by decide +kernel
theorem dX5_chooseRow_67 : decode cX5_chooseRow 67 = .ok (.getfield 41, 3) := by decide +kernel
theorem dX5_chooseRow_70 : decode cX5_chooseRow 70 = .ok (.getfield 218, 3) := by decide +kernel
theorem dX5_chooseRow_73 : decode cX5_chooseRow 73 = .ok (.ireturn, 1) := by decide +kernel
set_option maxRecDepth 20000 in
theorem ggX5_carryOrdersOut_X2_goToStart : GoodIn wsX5_carryOrdersOut wsX2_goToStart := goodIn_r _ [6, 7, 163, 164, 165, 166, 167] (by decide +kernel) (by decide +kernel)
set_option maxRecDepth 20000 in
theorem gX5_carryOrdersOut_X2_goToStart : GoodIn wsX5_carryOrdersOut (wsV RX5 219 RX2 yX2_goToStart wsX2_goToStart) := goodIn_app (goodIn_of _ (by decide +kernel)) ggX5_carryOrdersOut_X2_goToStart
set_option maxRecDepth 20000 in
theorem ggX5_carryOrdersOut_X2_readNext : GoodIn wsX5_carryOrdersOut wsX2_readNext := goodIn_r _ [11, 7, 12, 13, 14, 15, 16, 5, 17, 18, 19, 20, 21, 22, 23, 24, 25, 26, 27, 28, 29, 30, 31, 32, 33, 34, 35, 36, 37, 38, 39, 40, 41, 42, 43, 44, 45, 46, 47, 48, 49, 163, 164, 165, 166, 167, 168, 169] (by decide +kernel) (by decide +kernel)
set_option maxRecDepth 20000 in
theorem gX5_carryOrdersOut_X2_readNext : GoodIn wsX5_carryOrdersOut (wsV RX5 222 RX2 yX2_readNext wsX2_readNext) := goodIn_app (goodIn_of _ (by decide +kernel)) ggX5_carryOrdersOut_X2_readNext
set_option maxRecDepth 20000 in
theorem ggX5_carryOrdersOut_X5_carryOneOut : GoodIn wsX5_carryOrdersOut wsX5_carryOneOut := goodIn_r _ [54, 1, 55, 56, 57, 58, 59, 60, 27, 61, 29, 41, 62, 63, 64, 65, 66, 67, 68, 69, 53, 70, 71, 72, 73, 74, 75, 76, 77, 78, 79, 80, 81, 82, 83, 84, 85, 86, 87, 88, 89, 90, 91, 92, 93, 94, 95, 96, 97, 98, 99, 100, 101, 102, 103, 104, 105, 106, 107, 108, 109, 110, 111, 112, 113, 114, 115, 116, 117, 118, 119, 120, 121, 122, 123, 124, 125, 126, 127, 128, 129, 130, 131, 132, 133, 134, 135, 136, 137, 138, 139, 140, 141, 142, 143, 144, 145, 146, 147, 148, 149, 150, 151, 152, 153, 154, 155, 156, 157, 158, 159, 160, 161, 162, 163, 164, 165, 166, 167, 168, 169, 170, 171, 172, 173, 174, 175, 176, 177, 178, 179, 180, 181, 182, 183, 184] (by decide +kernel) (by decide +kernel)
set_option maxRecDepth 20000 in
theorem gX5_carryOrdersOut_X5_carryOneOut : GoodIn wsX5_carryOrdersOut (wsV RX5 226 RX5 yX5_carryOneOut wsX5_carryOneOut) := goodIn_app (goodIn_of _ (by decide +kernel)) ggX5_carryOrdersOut_X5_carryOneOut
theorem dX5_carryOrdersOut_0 : decode cX5_carryOrdersOut 0 = .ok (.aload_n 0, 1) := by decide +kernel
theorem dX5_carryOrdersOut_1 : decode cX5_carryOrdersOut 1 = .ok (.getfield 34, 3) := by decide +kernel
theorem dX5_carryOrdersOut_4 : decode cX5_carryOrdersOut 4 = .ok (.invokevirtual 219, 3) := by decide +kernel
theorem dX5_carryOrdersOut_7 : decode cX5_carryOrdersOut 7 = .ok (.iconst 0, 1) := by decide +kernel
theorem dX5_carryOrdersOut_8 : decode cX5_carryOrdersOut 8 = .ok (.istore_n 1, 1) := by decide +kernel
theorem dX5_carryOrdersOut_9 : decode cX5_carryOrdersOut 9 = .ok (.iload_n 1, 1) := by decide +kernel
theorem dX5_carryOrdersOut_10 : decode cX5_carryOrdersOut 10 = .ok (.bipush 80, 2) := by decide +kernel
theorem dX5_carryOrdersOut_12 : decode cX5_carryOrdersOut 12 = .ok (.if_icmp .ge 28, 3) := by decide +kernel
theorem dX5_carryOrdersOut_15 : decode cX5_carryOrdersOut 15 = .ok (.aload_n 0, 1) := by decide +kernel
theorem dX5_carryOrdersOut_16 : decode cX5_carryOrdersOut 16 = .ok (.getfield 34, 3) := by decide +kernel
theorem dX5_carryOrdersOut_19 : decode cX5_carryOrdersOut 19 = .ok (.invokevirtual 222, 3) := by decide +kernel
theorem dX5_carryOrdersOut_22 : decode cX5_carryOrdersOut 22 = .ok (.ifCond .eq 10, 3) := by decide +kernel
theorem dX5_carryOrdersOut_25 : decode cX5_carryOrdersOut 25 = .ok (.aload_n 0, 1) := by decide +kernel
theorem dX5_carryOrdersOut_26 : decode cX5_carryOrdersOut 26 = .ok (.invokevirtual 226, 3) := by decide +kernel
theorem dX5_carryOrdersOut_29 : decode cX5_carryOrdersOut 29 = .ok (.ifCond .ge 5, 3) := by decide +kernel
theorem dX5_carryOrdersOut_32 : decode cX5_carryOrdersOut 32 = .ok (.iload_n 1, 1) := by decide +kernel
theorem dX5_carryOrdersOut_33 : decode cX5_carryOrdersOut 33 = .ok (.ireturn, 1) := by decide +kernel
theorem dX5_carryOrdersOut_34 : decode cX5_carryOrdersOut 34 = .ok (.iinc 1 1, 3) := by decide +kernel
theorem dX5_carryOrdersOut_37 : decode cX5_carryOrdersOut 37 = .ok (.goto (-28), 3) := by decide +kernel
theorem dX5_carryOrdersOut_40 : decode cX5_carryOrdersOut 40 = .ok (.bipush 80, 2) := by decide +kernel
theorem dX5_carryOrdersOut_42 : decode cX5_carryOrdersOut 42 = .ok (.ireturn, 1) := by decide +kernel
set_option maxRecDepth 20000 in
theorem ggX5_carryOneOut_X3_at : GoodIn wsX5_carryOneOut wsX3_at := goodIn_r _ [9, 10, 11, 119, 120] (by decide +kernel) (by decide +kernel)
set_option maxRecDepth 20000 in
theorem gX5_carryOneOut_X3_at : GoodIn wsX5_carryOneOut (wsV RX5 235 RX3 yX3_at wsX3_at) := goodIn_app (goodIn_of _ (by decide +kernel)) ggX5_carryOneOut_X3_at
set_option maxRecDepth 20000 in
theorem ggX5_carryOneOut_X4_addClock : GoodIn wsX5_carryOneOut wsX4_addClock := goodIn_r _ [16, 17, 18, 19, 20, 21, 22, 23, 24, 25, 26, 27, 28, 29, 30, 31, 32, 33, 34, 121, 122, 123, 124, 125, 126, 127, 128, 129, 130, 131, 132, 133, 134, 135] (by decide +kernel) (by decide +kernel)
set_option maxRecDepth 20000 in
theorem gX5_carryOneOut_X4_addClock : GoodIn wsX5_carryOneOut (wsV RX5 57 RX4 yX4_addClock wsX4_addClock) := goodIn_app (goodIn_of _ (by decide +kernel)) ggX5_carryOneOut_X4_addClock
set_option maxRecDepth 20000 in
theorem ggX5_carryOneOut_X4_addLadder : GoodIn wsX5_carryOneOut wsX4_addLadder := goodIn_r _ [38, 39, 40, 19, 20, 21, 121, 122, 123, 124, 125, 126, 127] (by decide +kernel) (by decide +kernel)
set_option maxRecDepth 20000 in
theorem gX5_carryOneOut_X4_addLadder : GoodIn wsX5_carryOneOut (wsV RX5 61 RX4 yX4_addLadder wsX4_addLadder) := goodIn_app (goodIn_of _ (by decide +kernel)) ggX5_carryOneOut_X4_addLadder
set_option maxRecDepth 20000 in
theorem ggX5_carryOneOut_X4_walkBeat : GoodIn wsX5_carryOneOut wsX4_walkBeat := goodIn_r _ [44, 45, 18, 46, 47, 48, 49, 50, 15, 51, 52, 53, 54, 55, 56, 57, 6, 7, 8, 9, 10, 11, 58, 59, 60, 61, 17, 62, 63, 64, 65, 66, 39, 40, 67, 68, 69, 70, 71, 72, 73, 25, 74, 34, 31, 32, 33, 75, 76, 77, 78, 79, 80, 81, 82, 83, 30, 84, 85, 86, 87, 29, 119, 120, 121, 122, 123, 124, 125, 126, 127, 128, 129, 130, 131, 132, 133, 134, 135] (by decide +kernel) (by decide +kernel)
set_option maxRecDepth 20000 in
theorem gX5_carryOneOut_X4_walkBeat : GoodIn wsX5_carryOneOut (wsV RX5 70 RX4 yX4_walkBeat wsX4_walkBeat) := goodIn_app (goodIn_of _ (by decide +kernel)) ggX5_carryOneOut_X4_walkBeat
set_option maxRecDepth 20000 in
theorem ggX5_carryOneOut_X4_passDays : GoodIn wsX5_carryOneOut wsX4_passDays := goodIn_r _ [91, 92, 17, 18, 46, 19, 20, 21, 93, 94, 95, 25, 96, 34, 31, 32, 97, 84, 85, 86, 87, 29, 30, 98, 99, 100, 15, 101, 102, 121, 122, 123, 124, 125, 126, 127, 128, 129, 130, 131, 132, 133, 134, 135] (by decide +kernel) (by decide +kernel)
set_option maxRecDepth 20000 in
theorem gX5_carryOneOut_X4_passDays : GoodIn wsX5_carryOneOut (wsV RX5 74 RX4 yX4_passDays wsX4_passDays) := goodIn_app (goodIn_of _ (by decide +kernel)) ggX5_carryOneOut_X4_passDays
set_option maxRecDepth 20000 in
theorem ggX5_carryOneOut_X4_changeClocks : GoodIn wsX5_carryOneOut wsX4_changeClocks := goodIn_r _ [106, 17, 18, 102, 107, 98, 99, 100, 15, 101, 121, 122, 123, 124, 125, 126, 127, 128, 129, 130, 131, 132, 133, 134, 135] (by decide +kernel) (by decide +kernel)
set_option maxRecDepth 20000 in
theorem gX5_carryOneOut_X4_changeClocks : GoodIn wsX5_carryOneOut (wsV RX5 77 RX4 yX4_changeClocks wsX4_changeClocks) := goodIn_app (goodIn_of _ (by decide +kernel)) ggX5_carryOneOut_X4_changeClocks
theorem dX5_carryOneOut_0 : decode cX5_carryOneOut 0 = .ok (.aload_n 0, 1) := by decide +kernel
theorem dX5_carryOneOut_1 : decode cX5_carryOneOut 1 = .ok (.getfield 34, 3) := by decide +kernel
theorem dX5_carryOneOut_4 : decode cX5_carryOneOut 4 = .ok (.getfield 229, 3) := by decide +kernel
theorem dX5_carryOneOut_7 : decode cX5_carryOneOut 7 = .ok (.astore_n 1, 1) := by decide +kernel
theorem dX5_carryOneOut_8 : decode cX5_carryOneOut 8 = .ok (.aload_n 0, 1) := by decide +kernel
theorem dX5_carryOneOut_9 : decode cX5_carryOneOut 9 = .ok (.getfield 34, 3) := by decide +kernel
theorem dX5_carryOneOut_12 : decode cX5_carryOneOut 12 = .ok (.getfield 232, 3) := by decide +kernel
theorem dX5_carryOneOut_15 : decode cX5_carryOneOut 15 = .ok (.lookupswitch 133 #[(43, 57), (97, 124), (98, 93), (108, 80), (115, 115), (116, 102)], 57) := by decide +kernel
theorem dX5_carryOneOut_72 : decode cX5_carryOneOut 72 = .ok (.aload_n 0, 1) := by decide +kernel
theorem dX5_carryOneOut_73 : decode cX5_carryOneOut 73 = .ok (.getfield 12, 3) := by decide +kernel
theorem dX5_carryOneOut_76 : decode cX5_carryOneOut 76 = .ok (.aload_n 1, 1) := by decide +kernel
theorem dX5_carryOneOut_77 : decode cX5_carryOneOut 77 = .ok (.iconst 0, 1) := by decide +kernel
theorem dX5_carryOneOut_78 : decode cX5_carryOneOut 78 = .ok (.invokevirtual 235, 3) := by decide +kernel
theorem dX5_carryOneOut_81 : decode cX5_carryOneOut 81 = .ok (.aload_n 1, 1) := by decide +kernel
theorem dX5_carryOneOut_82 : decode cX5_carryOneOut 82 = .ok (.iconst 1, 1) := by decide +kernel
theorem dX5_carryOneOut_83 : decode cX5_carryOneOut 83 = .ok (.invokevirtual 235, 3) := by decide +kernel
theorem dX5_carryOneOut_86 : decode cX5_carryOneOut 86 = .ok (.aload_n 1, 1) := by decide +kernel
theorem dX5_carryOneOut_87 : decode cX5_carryOneOut 87 = .ok (.iconst 2, 1) := by decide +kernel
theorem dX5_carryOneOut_88 : decode cX5_carryOneOut 88 = .ok (.invokevirtual 235, 3) := by decide +kernel
theorem dX5_carryOneOut_91 : decode cX5_carryOneOut 91 = .ok (.invokevirtual 57, 3) := by decide +kernel
theorem dX5_carryOneOut_94 : decode cX5_carryOneOut 94 = .ok (.ireturn, 1) := by decide +kernel
theorem dX5_carryOneOut_95 : decode cX5_carryOneOut 95 = .ok (.aload_n 0, 1) := by decide +kernel
theorem dX5_carryOneOut_96 : decode cX5_carryOneOut 96 = .ok (.getfield 12, 3) := by decide +kernel
theorem dX5_carryOneOut_99 : decode cX5_carryOneOut 99 = .ok (.aload_n 1, 1) := by decide +kernel
theorem dX5_carryOneOut_100 : decode cX5_carryOneOut 100 = .ok (.iconst 0, 1) := by decide +kernel
theorem dX5_carryOneOut_101 : decode cX5_carryOneOut 101 = .ok (.invokevirtual 235, 3) := by decide +kernel
theorem dX5_carryOneOut_104 : decode cX5_carryOneOut 104 = .ok (.invokevirtual 61, 3) := by decide +kernel
theorem dX5_carryOneOut_107 : decode cX5_carryOneOut 107 = .ok (.ireturn, 1) := by decide +kernel
theorem dX5_carryOneOut_108 : decode cX5_carryOneOut 108 = .ok (.aload_n 0, 1) := by decide +kernel
theorem dX5_carryOneOut_109 : decode cX5_carryOneOut 109 = .ok (.getfield 12, 3) := by decide +kernel
theorem dX5_carryOneOut_112 : decode cX5_carryOneOut 112 = .ok (.aload_n 1, 1) := by decide +kernel
theorem dX5_carryOneOut_113 : decode cX5_carryOneOut 113 = .ok (.invokevirtual 70, 3) := by decide +kernel
theorem dX5_carryOneOut_116 : decode cX5_carryOneOut 116 = .ok (.ireturn, 1) := by decide +kernel
theorem dX5_carryOneOut_117 : decode cX5_carryOneOut 117 = .ok (.aload_n 0, 1) := by decide +kernel
theorem dX5_carryOneOut_118 : decode cX5_carryOneOut 118 = .ok (.getfield 12, 3) := by decide +kernel
theorem dX5_carryOneOut_121 : decode cX5_carryOneOut 121 = .ok (.aload_n 1, 1) := by decide +kernel
theorem dX5_carryOneOut_122 : decode cX5_carryOneOut 122 = .ok (.iconst 0, 1) := by decide +kernel
theorem dX5_carryOneOut_123 : decode cX5_carryOneOut 123 = .ok (.invokevirtual 235, 3) := by decide +kernel
theorem dX5_carryOneOut_126 : decode cX5_carryOneOut 126 = .ok (.invokevirtual 74, 3) := by decide +kernel
theorem dX5_carryOneOut_129 : decode cX5_carryOneOut 129 = .ok (.ireturn, 1) := by decide +kernel
theorem dX5_carryOneOut_130 : decode cX5_carryOneOut 130 = .ok (.aload_n 0, 1) := by decide +kernel
theorem dX5_carryOneOut_131 : decode cX5_carryOneOut 131 = .ok (.getfield 12, 3) := by decide +kernel
theorem dX5_carryOneOut_134 : decode cX5_carryOneOut 134 = .ok (.iconst 0, 1) := by decide +kernel
theorem dX5_carryOneOut_135 : decode cX5_carryOneOut 135 = .ok (.invokevirtual 77, 3) := by decide +kernel
theorem dX5_carryOneOut_138 : decode cX5_carryOneOut 138 = .ok (.ireturn, 1) := by decide +kernel
theorem dX5_carryOneOut_139 : decode cX5_carryOneOut 139 = .ok (.aload_n 0, 1) := by decide +kernel
theorem dX5_carryOneOut_140 : decode cX5_carryOneOut 140 = .ok (.getfield 12, 3) := by decide +kernel
theorem dX5_carryOneOut_143 : decode cX5_carryOneOut 143 = .ok (.iconst 1, 1) := by decide +kernel
theorem dX5_carryOneOut_144 : decode cX5_carryOneOut 144 = .ok (.invokevirtual 77, 3) := by decide +kernel
theorem dX5_carryOneOut_147 : decode cX5_carryOneOut 147 = .ok (.ireturn, 1) := by decide +kernel
theorem dX5_carryOneOut_148 : decode cX5_carryOneOut 148 = .ok (.bipush (-3), 2) := by decide +kernel
theorem dX5_carryOneOut_150 : decode cX5_carryOneOut 150 = .ok (.ireturn, 1) := by decide +kernel
set_option maxRecDepth 20000 in
theorem ggX5_signsIn_X5_codeAt : GoodIn wsX5_signsIn wsX5_codeAt := goodIn_r _ [4] (by decide +kernel) (by decide +kernel)
set_option maxRecDepth 20000 in
theorem gX5_signsIn_X5_codeAt : GoodIn wsX5_signsIn (va_wsS RX5 188 yX5_codeAt wsX5_codeAt) := goodIn_app (goodIn_of _ (by decide +kernel)) ggX5_signsIn_X5_codeAt
theorem dX5_signsIn_0 : decode cX5_signsIn 0 = .ok (.iconst 0, 1) := by decide +kernel
theorem dX5_signsIn_1 : decode cX5_signsIn 1 = .ok (.istore_n 2, 1) := by decide +kernel
theorem dX5_signsIn_2 : decode cX5_signsIn 2 = .ok (.iload_n 2, 1) := by decide +kernel
theorem dX5_signsIn_3 : decode cX5_signsIn 3 = .ok (.bipush 8, 2) := by decide +kernel
theorem dX5_signsIn_5 : decode cX5_signsIn 5 = .ok (.if_icmp .ge 50, 3) := by decide +kernel
theorem dX5_signsIn_8 : decode cX5_signsIn 8 = .ok (.lload_n 0, 1) := by decide +kernel
theorem dX5_signsIn_9 : decode cX5_signsIn 9 = .ok (.iload_n 2, 1) := by decide +kernel
theorem dX5_signsIn_10 : decode cX5_signsIn 10 = .ok (.invokestatic 188, 3) := by decide +kernel
theorem dX5_signsIn_13 : decode cX5_signsIn 13 = .ok (.istore_n 3, 1) := by decide +kernel
theorem dX5_signsIn_14 : decode cX5_signsIn 14 = .ok (.iload_n 3, 1) := by decide +kernel
theorem dX5_signsIn_15 : decode cX5_signsIn 15 = .ok (.ifCond .ne 20, 3) := by decide +kernel
theorem dX5_signsIn_18 : decode cX5_signsIn 18 = .ok (.lload_n 0, 1) := by decide +kernel
theorem dX5_signsIn_19 : decode cX5_signsIn 19 = .ok (.iload_n 2, 1) := by decide +kernel
theorem dX5_signsIn_20 : decode cX5_signsIn 20 = .ok (.bipush 8, 2) := by decide +kernel
theorem dX5_signsIn_22 : decode cX5_signsIn 22 = .ok (.imul, 1) := by decide +kernel
theorem dX5_signsIn_23 : decode cX5_signsIn 23 = .ok (.lushr, 1) := by decide +kernel
theorem dX5_signsIn_24 : decode cX5_signsIn 24 = .ok (.lconst 0, 1) := by decide +kernel
theorem dX5_signsIn_25 : decode cX5_signsIn 25 = .ok (.lcmp, 1) := by decide +kernel
theorem dX5_signsIn_26 : decode cX5_signsIn 26 = .ok (.ifCond .ne 7, 3) := by decide +kernel
theorem dX5_signsIn_29 : decode cX5_signsIn 29 = .ok (.iload_n 2, 1) := by decide +kernel
theorem dX5_signsIn_30 : decode cX5_signsIn 30 = .ok (.goto 4, 3) := by decide +kernel
theorem dX5_signsIn_33 : decode cX5_signsIn 33 = .ok (.iconst 0, 1) := by decide +kernel
theorem dX5_signsIn_34 : decode cX5_signsIn 34 = .ok (.ireturn, 1) := by decide +kernel
theorem dX5_signsIn_35 : decode cX5_signsIn 35 = .ok (.iload_n 3, 1) := by decide +kernel
theorem dX5_signsIn_36 : decode cX5_signsIn 36 = .ok (.bipush 33, 2) := by decide +kernel
theorem dX5_signsIn_38 : decode cX5_signsIn 38 = .ok (.if_icmp .lt 9, 3) := by decide +kernel
theorem dX5_signsIn_41 : decode cX5_signsIn 41 = .ok (.iload_n 3, 1) := by decide +kernel
theorem dX5_signsIn_42 : decode cX5_signsIn 42 = .ok (.bipush 126, 2) := by decide +kernel
theorem dX5_signsIn_44 : decode cX5_signsIn 44 = .ok (.if_icmp .le 5, 3) := by decide +kernel
theorem dX5_signsIn_47 : decode cX5_signsIn 47 = .ok (.iconst 0, 1) := by decide +kernel
theorem dX5_signsIn_48 : decode cX5_signsIn 48 = .ok (.ireturn, 1) := by decide +kernel
theorem dX5_signsIn_49 : decode cX5_signsIn 49 = .ok (.iinc 2 1, 3) := by decide +kernel
theorem dX5_signsIn_52 : decode cX5_signsIn 52 = .ok (.goto (-50), 3) := by decide +kernel
theorem dX5_signsIn_55 : decode cX5_signsIn 55 = .ok (.bipush 8, 2) := by decide +kernel
theorem dX5_signsIn_57 : decode cX5_signsIn 57 = .ok (.ireturn, 1) := by decide +kernel
theorem dX5_codeAt_0 : decode cX5_codeAt 0 = .ok (.lload_n 0, 1) := by decide +kernel
theorem dX5_codeAt_1 : decode cX5_codeAt 1 = .ok (.iload_n 2, 1) := by decide +kernel
theorem dX5_codeAt_2 : decode cX5_codeAt 2 = .ok (.bipush 8, 2) := by decide +kernel
theorem dX5_codeAt_4 : decode cX5_codeAt 4 = .ok (.imul, 1) := by decide +kernel
theorem dX5_codeAt_5 : decode cX5_codeAt 5 = .ok (.lushr, 1) := by decide +kernel
theorem dX5_codeAt_6 : decode cX5_codeAt 6 = .ok (.l2i, 1) := by decide +kernel
theorem dX5_codeAt_7 : decode cX5_codeAt 7 = .ok (.sipush 255, 3) := by decide +kernel
theorem dX5_codeAt_10 : decode cX5_codeAt 10 = .ok (.iand, 1) := by decide +kernel
theorem dX5_codeAt_11 : decode cX5_codeAt 11 = .ok (.ireturn, 1) := by decide +kernel
theorem dX5_isWithin_0 : decode cX5_isWithin 0 = .ok (.iload_n 0, 1) := by decide +kernel
theorem dX5_isWithin_1 : decode cX5_isWithin 1 = .ok (.iload_n 1, 1) := by decide +kernel
theorem dX5_isWithin_2 : decode cX5_isWithin 2 = .ok (.if_icmp .lt 12, 3) := by decide +kernel
theorem dX5_isWithin_5 : decode cX5_isWithin 5 = .ok (.iload_n 0, 1) := by decide +kernel
theorem dX5_isWithin_6 : decode cX5_isWithin 6 = .ok (.iload_n 2, 1) := by decide +kernel
theorem dX5_isWithin_7 : decode cX5_isWithin 7 = .ok (.if_icmp .gt 7, 3) := by decide +kernel
theorem dX5_isWithin_10 : decode cX5_isWithin 10 = .ok (.iconst 1, 1) := by decide +kernel
theorem dX5_isWithin_11 : decode cX5_isWithin 11 = .ok (.goto 4, 3) := by decide +kernel
theorem dX5_isWithin_14 : decode cX5_isWithin 14 = .ok (.iconst 0, 1) := by decide +kernel
theorem dX5_isWithin_15 : decode cX5_isWithin 15 = .ok (.ireturn, 1) := by decide +kernel
end
section
theorem dX6_init_0 : decode cX6_init 0 = .ok (.aload_n 0, 1) := by decide +kernel
theorem dX6_init_1 : decode cX6_init 1 = .ok (.invokespecial 1, 3) := by decide +kernel
theorem dX6_init_4 : decode cX6_init 4 = .ok (.aload_n 0, 1) := by decide +kernel
theorem dX6_init_5 : decode cX6_init 5 = .ok (.sipush 140, 3) := by decide +kernel
theorem dX6_init_8 : decode cX6_init 8 = .ok (.newarray .int, 2) := by decide +kernel
theorem dX6_init_10 : decode cX6_init 10 = .ok (.putfield 7, 3) := by decide +kernel
theorem dX6_init_13 : decode cX6_init 13 = .ok (.aload_n 0, 1) := by decide +kernel
theorem dX6_init_14 : decode cX6_init 14 = .ok (.sipush 140, 3) := by decide +kernel
theorem dX6_init_17 : decode cX6_init 17 = .ok (.newarray .int, 2) := by decide +kernel
theorem dX6_init_19 : decode cX6_init 19 = .ok (.putfield 13, 3) := by decide +kernel
theorem dX6_init_22 : decode cX6_init 22 = .ok (.aload_n 0, 1) := by decide +kernel
theorem dX6_init_23 : decode cX6_init 23 = .ok (.sipush 840, 3) := by decide +kernel
theorem dX6_init_26 : decode cX6_init 26 = .ok (.newarray .int, 2) := by decide +kernel
theorem dX6_init_28 : decode cX6_init 28 = .ok (.putfield 16, 3) := by decide +kernel
theorem dX6_init_31 : decode cX6_init 31 = .ok (.aload_n 0, 1) := by decide +kernel
theorem dX6_init_32 : decode cX6_init 32 = .ok (.sipush 280, 3) := by decide +kernel
theorem dX6_init_35 : decode cX6_init 35 = .ok (.newarray .int, 2) := by decide +kernel
theorem dX6_init_37 : decode cX6_init 37 = .ok (.putfield 19, 3) := by decide +kernel
theorem dX6_init_40 : decode cX6_init 40 = .ok (.aload_n 0, 1) := by decide +kernel
theorem dX6_init_41 : decode cX6_init 41 = .ok (.iconst 2, 1) := by decide +kernel
theorem dX6_init_42 : decode cX6_init 42 = .ok (.newarray .boolean, 2) := by decide +kernel
theorem dX6_init_44 : decode cX6_init 44 = .ok (.putfield 22, 3) := by decide +kernel
theorem dX6_init_47 : decode cX6_init 47 = .ok (.aload_n 0, 1) := by decide +kernel
theorem dX6_init_48 : decode cX6_init 48 = .ok (.bipush 80, 2) := by decide +kernel
theorem dX6_init_50 : decode cX6_init 50 = .ok (.newarray .int, 2) := by decide +kernel
theorem dX6_init_52 : decode cX6_init 52 = .ok (.putfield 26, 3) := by decide +kernel
theorem dX6_init_55 : decode cX6_init 55 = .ok (.aload_n 0, 1) := by decide +kernel
theorem dX6_init_56 : decode cX6_init 56 = .ok (.bipush 80, 2) := by decide +kernel
theorem dX6_init_58 : decode cX6_init 58 = .ok (.newarray .int, 2) := by decide +kernel
theorem dX6_init_60 : decode cX6_init 60 = .ok (.putfield 29, 3) := by decide +kernel
theorem dX6_init_63 : decode cX6_init 63 = .ok (.aload_n 0, 1) := by decide +kernel
theorem dX6_init_64 : decode cX6_init 64 = .ok (.bipush 16, 2) := by decide +kernel
theorem dX6_init_66 : decode cX6_init 66 = .ok (.newarray .int, 2) := by decide +kernel
theorem dX6_init_68 : decode cX6_init 68 = .ok (.putfield 32, 3) := by decide +kernel
theorem dX6_init_71 : decode cX6_init 71 = .ok (.aload_n 0, 1) := by decide +kernel
theorem dX6_init_72 : decode cX6_init 72 = .ok (.getfield 7, 3) := by decide +kernel
theorem dX6_init_75 : decode cX6_init 75 = .ok (.iconst 0, 1) := by decide +kernel
theorem dX6_init_76 : decode cX6_init 76 = .ok (.bipush 60, 2) := by decide +kernel
theorem dX6_init_78 : decode cX6_init 78 = .ok (.iastore, 1) := by decide +kernel
theorem dX6_init_79 : decode cX6_init 79 = .ok (.aload_n 0, 1) := by decide +kernel
theorem dX6_init_80 : decode cX6_init 80 = .ok (.getfield 7, 3) := by decide +kernel
theorem dX6_init_83 : decode cX6_init 83 = .ok (.iconst 1, 1) := by decide +kernel
theorem dX6_init_84 : decode cX6_init 84 = .ok (.bipush 8, 2) := by decide +kernel
theorem dX6_init_86 : decode cX6_init 86 = .ok (.iastore, 1) := by decide +kernel
theorem dX6_init_87 : decode cX6_init 87 = .ok (.aload_n 0, 1) := by decide +kernel
theorem dX6_init_88 : decode cX6_init 88 = .ok (.getfield 7, 3) := by decide +kernel
theorem dX6_init_91 : decode cX6_init 91 = .ok (.iconst 2, 1) := by decide +kernel
theorem dX6_init_92 : decode cX6_init 92 = .ok (.iconst 5, 1) := by decide +kernel
theorem dX6_init_93 : decode cX6_init 93 = .ok (.iastore, 1) := by decide +kernel
theorem dX6_init_94 : decode cX6_init 94 = .ok (.aload_n 0, 1) := by decide +kernel
theorem dX6_init_95 : decode cX6_init 95 = .ok (.getfield 7, 3) := by decide +kernel
theorem dX6_init_98 : decode cX6_init 98 = .ok (.iconst 3, 1) := by decide +kernel
theorem dX6_init_99 : decode cX6_init 99 = .ok (.bipush 10, 2) := by decide +kernel
theorem dX6_init_101 : decode cX6_init 101 = .ok (.iastore, 1) := by decide +kernel
theorem dX6_init_102 : decode cX6_init 102 = .ok (.return_, 1) := by decide +kernel
theorem dX6_in_0 : decode cX6_in 0 = .ok (.iload_n 0, 1) := by decide +kernel
theorem dX6_in_1 : decode cX6_in 1 = .ok (.iload_n 1, 1) := by decide +kernel
theorem dX6_in_2 : decode cX6_in 2 = .ok (.if_icmp .lt 12, 3) := by decide +kernel
theorem dX6_in_5 : decode cX6_in 5 = .ok (.iload_n 0, 1) := by decide +kernel
theorem dX6_in_6 : decode cX6_in 6 = .ok (.iload_n 2, 1) := by decide +kernel
theorem dX6_in_7 : decode cX6_in 7 = .ok (.if_icmp .gt 7, 3) := by decide +kernel
theorem dX6_in_10 : decode cX6_in 10 = .ok (.iconst 1, 1) := by decide +kernel
theorem dX6_in_11 : decode cX6_in 11 = .ok (.goto 4, 3) := by decide +kernel
theorem dX6_in_14 : decode cX6_in 14 = .ok (.iconst 0, 1) := by decide +kernel
theorem dX6_in_15 : decode cX6_in 15 = .ok (.ireturn, 1) := by decide +kernel
theorem dX6_size_0 : decode cX6_size 0 = .ok (.iload_n 0, 1) := by decide +kernel
theorem dX6_size_1 : decode cX6_size 1 = .ok (.ifCond .ge 8, 3) := by decide +kernel
theorem dX6_size_4 : decode cX6_size 4 = .ok (.iload_n 0, 1) := by decide +kernel
theorem dX6_size_5 : decode cX6_size 5 = .ok (.ineg, 1) := by decide +kernel
theorem dX6_size_6 : decode cX6_size 6 = .ok (.goto 4, 3) := by decide +kernel
theorem dX6_size_9 : decode cX6_size 9 = .ok (.iload_n 0, 1) := by decide +kernel
theorem dX6_size_10 : decode cX6_size 10 = .ok (.ireturn, 1) := by decide +kernel
theorem dX6_at_0 : decode cX6_at 0 = .ok (.bipush 12, 2) := by decide +kernel
theorem dX6_at_2 : decode cX6_at 2 = .ok (.bipush 8, 2) := by decide +kernel
theorem dX6_at_4 : decode cX6_at 4 = .ok (.iload_n 0, 1) := by decide +kernel
theorem dX6_at_5 : decode cX6_at 5 = .ok (.imul, 1) := by decide +kernel
theorem dX6_at_6 : decode cX6_at 6 = .ok (.iadd, 1) := by decide +kernel
theorem dX6_at_7 : decode cX6_at 7 = .ok (.iload_n 1, 1) := by decide +kernel
theorem dX6_at_8 : decode cX6_at 8 = .ok (.iadd, 1) := by decide +kernel
theorem dX6_at_9 : decode cX6_at 9 = .ok (.ireturn, 1) := by decide +kernel
set_option maxRecDepth 20000 in
theorem ggX6_isClock_X6_in : GoodIn wsX6_isClock wsX6_in := goodIn_r _ [5] (by decide +kernel) (by decide +kernel)
set_option maxRecDepth 20000 in
theorem gX6_isClock_X6_in : GoodIn wsX6_isClock (va_wsS RX6 35 yX6_in wsX6_in) := goodIn_app (goodIn_of _ (by decide +kernel)) ggX6_isClock_X6_in
theorem dX6_isClock_0 : decode cX6_isClock 0 = .ok (.iload_n 1, 1) := by decide +kernel
theorem dX6_isClock_1 : decode cX6_isClock 1 = .ok (.iconst 0, 1) := by decide +kernel
theorem dX6_isClock_2 : decode cX6_isClock 2 = .ok (.aload_n 0, 1) := by decide +kernel
theorem dX6_isClock_3 : decode cX6_isClock 3 = .ok (.getfield 7, 3) := by decide +kernel
theorem dX6_isClock_6 : decode cX6_isClock 6 = .ok (.iconst 5, 1) := by decide +kernel
theorem dX6_isClock_7 : decode cX6_isClock 7 = .ok (.iaload, 1) := by decide +kernel
theorem dX6_isClock_8 : decode cX6_isClock 8 = .ok (.iconst 1, 1) := by decide +kernel
theorem dX6_isClock_9 : decode cX6_isClock 9 = .ok (.isub, 1) := by decide +kernel
theorem dX6_isClock_10 : decode cX6_isClock 10 = .ok (.invokestatic 35, 3) := by decide +kernel
theorem dX6_isClock_13 : decode cX6_isClock 13 = .ok (.ireturn, 1) := by decide +kernel
theorem dX6_know_0 : decode cX6_know 0 = .ok (.aload_n 0, 1) := by decide +kernel
theorem dX6_know_1 : decode cX6_know 1 = .ok (.getfield 39, 3) := by decide +kernel
theorem dX6_know_4 : decode cX6_know 4 = .ok (.bipush 6, 2) := by decide +kernel
theorem dX6_know_6 : decode cX6_know 6 = .ok (.if_icmp .ne 44, 3) := by decide +kernel
theorem dX6_know_9 : decode cX6_know 9 = .ok (.iconst 0, 1) := by decide +kernel
theorem dX6_know_10 : decode cX6_know 10 = .ok (.istore_n 1, 1) := by decide +kernel
theorem dX6_know_11 : decode cX6_know 11 = .ok (.iload_n 1, 1) := by decide +kernel
theorem dX6_know_12 : decode cX6_know 12 = .ok (.sipush 700, 3) := by decide +kernel
theorem dX6_know_15 : decode cX6_know 15 = .ok (.if_icmp .ge 25, 3) := by decide +kernel
theorem dX6_know_18 : decode cX6_know 18 = .ok (.aload_n 0, 1) := by decide +kernel
theorem dX6_know_19 : decode cX6_know 19 = .ok (.getfield 16, 3) := by decide +kernel
theorem dX6_know_22 : decode cX6_know 22 = .ok (.iload_n 1, 1) := by decide +kernel
theorem dX6_know_23 : decode cX6_know 23 = .ok (.aload_n 0, 1) := by decide +kernel
theorem dX6_know_24 : decode cX6_know 24 = .ok (.getfield 16, 3) := by decide +kernel
theorem dX6_know_27 : decode cX6_know 27 = .ok (.sipush 140, 3) := by decide +kernel
theorem dX6_know_30 : decode cX6_know 30 = .ok (.iload_n 1, 1) := by decide +kernel
theorem dX6_know_31 : decode cX6_know 31 = .ok (.iadd, 1) := by decide +kernel
theorem dX6_know_32 : decode cX6_know 32 = .ok (.iaload, 1) := by decide +kernel
theorem dX6_know_33 : decode cX6_know 33 = .ok (.iastore, 1) := by decide +kernel
theorem dX6_know_34 : decode cX6_know 34 = .ok (.iinc 1 1, 3) := by decide +kernel
theorem dX6_know_37 : decode cX6_know 37 = .ok (.goto (-26), 3) := by decide +kernel
theorem dX6_know_40 : decode cX6_know 40 = .ok (.aload_n 0, 1) := by decide +kernel
theorem dX6_know_41 : decode cX6_know 41 = .ok (.dup, 1) := by decide +kernel
theorem dX6_know_42 : decode cX6_know 42 = .ok (.getfield 39, 3) := by decide +kernel
theorem dX6_know_45 : decode cX6_know 45 = .ok (.iconst 1, 1) := by decide +kernel
theorem dX6_know_46 : decode cX6_know 46 = .ok (.isub, 1) := by decide +kernel
theorem dX6_know_47 : decode cX6_know 47 = .ok (.putfield 39, 3) := by decide +kernel
theorem dX6_know_50 : decode cX6_know 50 = .ok (.iconst 0, 1) := by decide +kernel
theorem dX6_know_51 : decode cX6_know 51 = .ok (.istore_n 1, 1) := by decide +kernel
theorem dX6_know_52 : decode cX6_know 52 = .ok (.iload_n 1, 1) := by decide +kernel
theorem dX6_know_53 : decode cX6_know 53 = .ok (.sipush 140, 3) := by decide +kernel
theorem dX6_know_56 : decode cX6_know 56 = .ok (.if_icmp .ge 30, 3) := by decide +kernel
theorem dX6_know_59 : decode cX6_know 59 = .ok (.aload_n 0, 1) := by decide +kernel
theorem dX6_know_60 : decode cX6_know 60 = .ok (.getfield 16, 3) := by decide +kernel
theorem dX6_know_63 : decode cX6_know 63 = .ok (.sipush 140, 3) := by decide +kernel
theorem dX6_know_66 : decode cX6_know 66 = .ok (.aload_n 0, 1) := by decide +kernel
theorem dX6_know_67 : decode cX6_know 67 = .ok (.getfield 39, 3) := by decide +kernel
theorem dX6_know_70 : decode cX6_know 70 = .ok (.imul, 1) := by decide +kernel
theorem dX6_know_71 : decode cX6_know 71 = .ok (.iload_n 1, 1) := by decide +kernel
theorem dX6_know_72 : decode cX6_know 72 = .ok (.iadd, 1) := by decide +kernel
theorem dX6_know_73 : decode cX6_know 73 = .ok (.aload_n 0, 1) := by decide +kernel
theorem dX6_know_74 : decode cX6_know 74 = .ok (.getfield 7, 3) := by decide +kernel
theorem dX6_know_77 : decode cX6_know 77 = .ok (.iload_n 1, 1) := by decide +kernel
theorem dX6_know_78 : decode cX6_know 78 = .ok (.iaload, 1) := by decide +kernel
theorem dX6_know_79 : decode cX6_know 79 = .ok (.iastore, 1) := by decide +kernel
theorem dX6_know_80 : decode cX6_know 80 = .ok (.iinc 1 1, 3) := by decide +kernel
theorem dX6_know_83 : decode cX6_know 83 = .ok (.goto (-31), 3) := by decide +kernel
theorem dX6_know_86 : decode cX6_know 86 = .ok (.aload_n 0, 1) := by decide +kernel
theorem dX6_know_87 : decode cX6_know 87 = .ok (.dup, 1) := by decide +kernel
theorem dX6_know_88 : decode cX6_know 88 = .ok (.getfield 39, 3) := by decide +kernel
theorem dX6_know_91 : decode cX6_know 91 = .ok (.iconst 1, 1) := by decide +kernel
theorem dX6_know_92 : decode cX6_know 92 = .ok (.iadd, 1) := by decide +kernel
theorem dX6_know_93 : decode cX6_know 93 = .ok (.putfield 39, 3) := by decide +kernel
theorem dX6_know_96 : decode cX6_know 96 = .ok (.return_, 1) := by decide +kernel
set_option maxRecDepth 20000 in
theorem ggX6_rate_X6_at : GoodIn wsX6_rate wsX6_at := goodIn_r _ [5] (by decide +kernel) (by decide +kernel)
set_option maxRecDepth 20000 in
theorem gX6_rate_X6_at : GoodIn wsX6_rate (va_wsS RX6 43 yX6_at wsX6_at) := goodIn_app (goodIn_of _ (by decide +kernel)) ggX6_rate_X6_at
theorem dX6_rate_0 : decode cX6_rate 0 = .ok (.aload_n 0, 1) := by decide +kernel
theorem dX6_rate_1 : decode cX6_rate 1 = .ok (.getfield 7, 3) := by decide +kernel
theorem dX6_rate_4 : decode cX6_rate 4 = .ok (.iload_n 1, 1) := by decide +kernel
theorem dX6_rate_5 : decode cX6_rate 5 = .ok (.iconst 2, 1) := by decide +kernel
theorem dX6_rate_6 : decode cX6_rate 6 = .ok (.invokestatic 43, 3) := by decide +kernel
theorem dX6_rate_9 : decode cX6_rate 9 = .ok (.iaload, 1) := by decide +kernel
theorem dX6_rate_10 : decode cX6_rate 10 = .ok (.iconst 3, 1) := by decide +kernel
theorem dX6_rate_11 : decode cX6_rate 11 = .ok (.aload_n 0, 1) := by decide +kernel
theorem dX6_rate_12 : decode cX6_rate 12 = .ok (.getfield 7, 3) := by decide +kernel
theorem dX6_rate_15 : decode cX6_rate 15 = .ok (.iload_n 1, 1) := by decide +kernel
theorem dX6_rate_16 : decode cX6_rate 16 = .ok (.iconst 3, 1) := by decide +kernel
theorem dX6_rate_17 : decode cX6_rate 17 = .ok (.invokestatic 43, 3) := by decide +kernel
theorem dX6_rate_20 : decode cX6_rate 20 = .ok (.iaload, 1) := by decide +kernel
theorem dX6_rate_21 : decode cX6_rate 21 = .ok (.imul, 1) := by decide +kernel
theorem dX6_rate_22 : decode cX6_rate 22 = .ok (.iadd, 1) := by decide +kernel
theorem dX6_rate_23 : decode cX6_rate 23 = .ok (.ireturn, 1) := by decide +kernel
set_option maxRecDepth 20000 in
theorem ggX6_isOff_X6_at : GoodIn wsX6_isOff wsX6_at := goodIn_r _ [5] (by decide +kernel) (by decide +kernel)
set_option maxRecDepth 20000 in
theorem gX6_isOff_X6_at : GoodIn wsX6_isOff (va_wsS RX6 43 yX6_at wsX6_at) := goodIn_app (goodIn_of _ (by decide +kernel)) ggX6_isOff_X6_at
set_option maxRecDepth 20000 in
theorem ggX6_isOff_X6_size : GoodIn wsX6_isOff wsX6_size := goodIn_r _ [8] (by decide +kernel) (by decide +kernel)
set_option maxRecDepth 20000 in
theorem gX6_isOff_X6_size : GoodIn wsX6_isOff (va_wsS RX6 47 yX6_size wsX6_size) := goodIn_app (goodIn_of _ (by decide +kernel)) ggX6_isOff_X6_size
theorem dX6_isOff_0 : decode cX6_isOff 0 = .ok (.aload_n 0, 1) := by decide +kernel
theorem dX6_isOff_1 : decode cX6_isOff 1 = .ok (.getfield 7, 3) := by decide +kernel
theorem dX6_isOff_4 : decode cX6_isOff 4 = .ok (.iload_n 1, 1) := by decide +kernel
theorem dX6_isOff_5 : decode cX6_isOff 5 = .ok (.iconst 4, 1) := by decide +kernel
theorem dX6_isOff_6 : decode cX6_isOff 6 = .ok (.invokestatic 43, 3) := by decide +kernel
theorem dX6_isOff_9 : decode cX6_isOff 9 = .ok (.iaload, 1) := by decide +kernel
theorem dX6_isOff_10 : decode cX6_isOff 10 = .ok (.invokestatic 47, 3) := by decide +kernel
theorem dX6_isOff_13 : decode cX6_isOff 13 = .ok (.aload_n 0, 1) := by decide +kernel
theorem dX6_isOff_14 : decode cX6_isOff 14 = .ok (.getfield 7, 3) := by decide +kernel
theorem dX6_isOff_17 : decode cX6_isOff 17 = .ok (.iconst 0, 1) := by decide +kernel
theorem dX6_isOff_18 : decode cX6_isOff 18 = .ok (.iaload, 1) := by decide +kernel
theorem dX6_isOff_19 : decode cX6_isOff 19 = .ok (.if_icmp .le 7, 3) := by decide +kernel
theorem dX6_isOff_22 : decode cX6_isOff 22 = .ok (.iconst 1, 1) := by decide +kernel
theorem dX6_isOff_23 : decode cX6_isOff 23 = .ok (.goto 4, 3) := by decide +kernel
theorem dX6_isOff_26 : decode cX6_isOff 26 = .ok (.iconst 0, 1) := by decide +kernel
theorem dX6_isOff_27 : decode cX6_isOff 27 = .ok (.ireturn, 1) := by decide +kernel
set_option maxRecDepth 20000 in
theorem ggX6_ladderOf_X6_at : GoodIn wsX6_ladderOf wsX6_at := goodIn_r _ [5] (by decide +kernel) (by decide +kernel)
set_option maxRecDepth 20000 in
theorem gX6_ladderOf_X6_at : GoodIn wsX6_ladderOf (va_wsS RX6 43 yX6_at wsX6_at) := goodIn_app (goodIn_of _ (by decide +kernel)) ggX6_ladderOf_X6_at
theorem dX6_ladderOf_0 : decode cX6_ladderOf 0 = .ok (.bipush (-6), 2) := by decide +kernel
theorem dX6_ladderOf_2 : decode cX6_ladderOf 2 = .ok (.istore_n 2, 1) := by decide +kernel
theorem dX6_ladderOf_3 : decode cX6_ladderOf 3 = .ok (.iconst 0, 1) := by decide +kernel
theorem dX6_ladderOf_4 : decode cX6_ladderOf 4 = .ok (.istore_n 3, 1) := by decide +kernel
theorem dX6_ladderOf_5 : decode cX6_ladderOf 5 = .ok (.iload_n 3, 1) := by decide +kernel
theorem dX6_ladderOf_6 : decode cX6_ladderOf 6 = .ok (.aload_n 0, 1) := by decide +kernel
theorem dX6_ladderOf_7 : decode cX6_ladderOf 7 = .ok (.getfield 7, 3) := by decide +kernel
theorem dX6_ladderOf_10 : decode cX6_ladderOf 10 = .ok (.bipush 6, 2) := by decide +kernel
theorem dX6_ladderOf_12 : decode cX6_ladderOf 12 = .ok (.iaload, 1) := by decide +kernel
theorem dX6_ladderOf_13 : decode cX6_ladderOf 13 = .ok (.if_icmp .ge 89, 3) := by decide +kernel
theorem dX6_ladderOf_16 : decode cX6_ladderOf 16 = .ok (.aload_n 0, 1) := by decide +kernel
theorem dX6_ladderOf_17 : decode cX6_ladderOf 17 = .ok (.getfield 7, 3) := by decide +kernel
theorem dX6_ladderOf_20 : decode cX6_ladderOf 20 = .ok (.iload_n 1, 1) := by decide +kernel
theorem dX6_ladderOf_21 : decode cX6_ladderOf 21 = .ok (.iconst 1, 1) := by decide +kernel
theorem dX6_ladderOf_22 : decode cX6_ladderOf 22 = .ok (.invokestatic 43, 3) := by decide +kernel
theorem dX6_ladderOf_25 : decode cX6_ladderOf 25 = .ok (.iaload, 1) := by decide +kernel
theorem dX6_ladderOf_26 : decode cX6_ladderOf 26 = .ok (.ifCond .le 29, 3) := by decide +kernel
theorem dX6_ladderOf_29 : decode cX6_ladderOf 29 = .ok (.aload_n 0, 1) := by decide +kernel
theorem dX6_ladderOf_30 : decode cX6_ladderOf 30 = .ok (.getfield 7, 3) := by decide +kernel
theorem dX6_ladderOf_33 : decode cX6_ladderOf 33 = .ok (.bipush 8, 2) := by decide +kernel
theorem dX6_ladderOf_35 : decode cX6_ladderOf 35 = .ok (.iload_n 3, 1) := by decide +kernel
theorem dX6_ladderOf_36 : decode cX6_ladderOf 36 = .ok (.iadd, 1) := by decide +kernel
theorem dX6_ladderOf_37 : decode cX6_ladderOf 37 = .ok (.iaload, 1) := by decide +kernel
theorem dX6_ladderOf_38 : decode cX6_ladderOf 38 = .ok (.aload_n 0, 1) := by decide +kernel
theorem dX6_ladderOf_39 : decode cX6_ladderOf 39 = .ok (.getfield 7, 3) := by decide +kernel
theorem dX6_ladderOf_42 : decode cX6_ladderOf 42 = .ok (.iload_n 1, 1) := by decide +kernel
theorem dX6_ladderOf_43 : decode cX6_ladderOf 43 = .ok (.iconst 1, 1) := by decide +kernel
theorem dX6_ladderOf_44 : decode cX6_ladderOf 44 = .ok (.invokestatic 43, 3) := by decide +kernel
theorem dX6_ladderOf_47 : decode cX6_ladderOf 47 = .ok (.iaload, 1) := by decide +kernel
theorem dX6_ladderOf_48 : decode cX6_ladderOf 48 = .ok (.if_icmp .lt 7, 3) := by decide +kernel
theorem dX6_ladderOf_51 : decode cX6_ladderOf 51 = .ok (.iconst 1, 1) := by decide +kernel
theorem dX6_ladderOf_52 : decode cX6_ladderOf 52 = .ok (.goto 4, 3) := by decide +kernel
theorem dX6_ladderOf_55 : decode cX6_ladderOf 55 = .ok (.iconst 0, 1) := by decide +kernel
theorem dX6_ladderOf_56 : decode cX6_ladderOf 56 = .ok (.istore 4, 2) := by decide +kernel
theorem dX6_ladderOf_58 : decode cX6_ladderOf 58 = .ok (.iload 4, 2) := by decide +kernel
theorem dX6_ladderOf_60 : decode cX6_ladderOf 60 = .ok (.ifCond .eq 34, 3) := by decide +kernel
theorem dX6_ladderOf_63 : decode cX6_ladderOf 63 = .ok (.iload_n 2, 1) := by decide +kernel
theorem dX6_ladderOf_64 : decode cX6_ladderOf 64 = .ok (.bipush (-6), 2) := by decide +kernel
theorem dX6_ladderOf_66 : decode cX6_ladderOf 66 = .ok (.if_icmp .eq 24, 3) := by decide +kernel
theorem dX6_ladderOf_69 : decode cX6_ladderOf 69 = .ok (.aload_n 0, 1) := by decide +kernel
theorem dX6_ladderOf_70 : decode cX6_ladderOf 70 = .ok (.getfield 7, 3) := by decide +kernel
theorem dX6_ladderOf_73 : decode cX6_ladderOf 73 = .ok (.bipush 8, 2) := by decide +kernel
theorem dX6_ladderOf_75 : decode cX6_ladderOf 75 = .ok (.iload_n 3, 1) := by decide +kernel
theorem dX6_ladderOf_76 : decode cX6_ladderOf 76 = .ok (.iadd, 1) := by decide +kernel
theorem dX6_ladderOf_77 : decode cX6_ladderOf 77 = .ok (.iaload, 1) := by decide +kernel
theorem dX6_ladderOf_78 : decode cX6_ladderOf 78 = .ok (.aload_n 0, 1) := by decide +kernel
theorem dX6_ladderOf_79 : decode cX6_ladderOf 79 = .ok (.getfield 7, 3) := by decide +kernel
theorem dX6_ladderOf_82 : decode cX6_ladderOf 82 = .ok (.bipush 8, 2) := by decide +kernel
theorem dX6_ladderOf_84 : decode cX6_ladderOf 84 = .ok (.iload_n 2, 1) := by decide +kernel
theorem dX6_ladderOf_85 : decode cX6_ladderOf 85 = .ok (.iadd, 1) := by decide +kernel
theorem dX6_ladderOf_86 : decode cX6_ladderOf 86 = .ok (.iaload, 1) := by decide +kernel
theorem dX6_ladderOf_87 : decode cX6_ladderOf 87 = .ok (.if_icmp .ge 7, 3) := by decide +kernel
theorem dX6_ladderOf_90 : decode cX6_ladderOf 90 = .ok (.iload_n 3, 1) := by decide +kernel
theorem dX6_ladderOf_91 : decode cX6_ladderOf 91 = .ok (.goto 4, 3) := by decide +kernel
theorem dX6_ladderOf_94 : decode cX6_ladderOf 94 = .ok (.iload_n 2, 1) := by decide +kernel
theorem dX6_ladderOf_95 : decode cX6_ladderOf 95 = .ok (.istore_n 2, 1) := by decide +kernel
theorem dX6_ladderOf_96 : decode cX6_ladderOf 96 = .ok (.iinc 3 1, 3) := by decide +kernel
theorem dX6_ladderOf_99 : decode cX6_ladderOf 99 = .ok (.goto (-94), 3) := by decide +kernel
theorem dX6_ladderOf_102 : decode cX6_ladderOf 102 = .ok (.iload_n 2, 1) := by decide +kernel
theorem dX6_ladderOf_103 : decode cX6_ladderOf 103 = .ok (.ireturn, 1) := by decide +kernel
set_option maxRecDepth 20000 in
theorem ggX6_canWind_X6_at : GoodIn wsX6_canWind wsX6_at := goodIn_r _ [5] (by decide +kernel) (by decide +kernel)
set_option maxRecDepth 20000 in
theorem gX6_canWind_X6_at : GoodIn wsX6_canWind (va_wsS RX6 43 yX6_at wsX6_at) := goodIn_app (goodIn_of _ (by decide +kernel)) ggX6_canWind_X6_at
set_option maxRecDepth 20000 in
theorem ggX6_canWind_X6_ladderOf : GoodIn wsX6_canWind wsX6_ladderOf := goodIn_r _ [9, 1, 2, 3, 4, 5, 10, 11, 12, 13, 14, 15, 16, 17, 18, 19, 20, 21, 22, 23, 24, 25, 26] (by decide +kernel) (by decide +kernel)
set_option maxRecDepth 20000 in
theorem gX6_canWind_X6_ladderOf : GoodIn wsX6_canWind (wsV RX6 51 RX6 yX6_ladderOf wsX6_ladderOf) := goodIn_app (goodIn_of _ (by decide +kernel)) ggX6_canWind_X6_ladderOf
theorem dX6_canWind_0 : decode cX6_canWind 0 = .ok (.aload_n 0, 1) := by decide +kernel
theorem dX6_canWind_1 : decode cX6_canWind 1 = .ok (.getfield 7, 3) := by decide +kernel
theorem dX6_canWind_4 : decode cX6_canWind 4 = .ok (.iload_n 1, 1) := by decide +kernel
theorem dX6_canWind_5 : decode cX6_canWind 5 = .ok (.iconst 1, 1) := by decide +kernel
theorem dX6_canWind_6 : decode cX6_canWind 6 = .ok (.invokestatic 43, 3) := by decide +kernel
theorem dX6_canWind_9 : decode cX6_canWind 9 = .ok (.iaload, 1) := by decide +kernel
theorem dX6_canWind_10 : decode cX6_canWind 10 = .ok (.ifCond .eq 13, 3) := by decide +kernel
theorem dX6_canWind_13 : decode cX6_canWind 13 = .ok (.aload_n 0, 1) := by decide +kernel
theorem dX6_canWind_14 : decode cX6_canWind 14 = .ok (.iload_n 1, 1) := by decide +kernel
theorem dX6_canWind_15 : decode cX6_canWind 15 = .ok (.invokevirtual 51, 3) := by decide +kernel
theorem dX6_canWind_18 : decode cX6_canWind 18 = .ok (.bipush (-6), 2) := by decide +kernel
theorem dX6_canWind_20 : decode cX6_canWind 20 = .ok (.if_icmp .eq 7, 3) := by decide +kernel
theorem dX6_canWind_23 : decode cX6_canWind 23 = .ok (.iconst 1, 1) := by decide +kernel
theorem dX6_canWind_24 : decode cX6_canWind 24 = .ok (.goto 4, 3) := by decide +kernel
theorem dX6_canWind_27 : decode cX6_canWind 27 = .ok (.iconst 0, 1) := by decide +kernel
theorem dX6_canWind_28 : decode cX6_canWind 28 = .ok (.ireturn, 1) := by decide +kernel
set_option maxRecDepth 20000 in
theorem ggX6_day_X6_at : GoodIn wsX6_day wsX6_at := goodIn_r _ [6] (by decide +kernel) (by decide +kernel)
set_option maxRecDepth 20000 in
theorem gX6_day_X6_at : GoodIn wsX6_day (va_wsS RX6 43 yX6_at wsX6_at) := goodIn_app (goodIn_of _ (by decide +kernel)) ggX6_day_X6_at
set_option maxRecDepth 20000 in
theorem ggX6_day_X6_rate : GoodIn wsX6_day wsX6_rate := goodIn_r _ [10, 1, 3, 4, 5, 6, 11, 12, 13, 14, 15, 16, 17, 18, 19, 20, 21, 22, 23, 24, 25, 26, 27] (by decide +kernel) (by decide +kernel)
set_option maxRecDepth 20000 in
theorem gX6_day_X6_rate : GoodIn wsX6_day (wsV RX6 54 RX6 yX6_rate wsX6_rate) := goodIn_app (goodIn_of _ (by decide +kernel)) ggX6_day_X6_rate
theorem dX6_day_0 : decode cX6_day 0 = .ok (.aload_n 0, 1) := by decide +kernel
theorem dX6_day_1 : decode cX6_day 1 = .ok (.getfield 7, 3) := by decide +kernel
theorem dX6_day_4 : decode cX6_day 4 = .ok (.iload_n 1, 1) := by decide +kernel
theorem dX6_day_5 : decode cX6_day 5 = .ok (.iconst 5, 1) := by decide +kernel
theorem dX6_day_6 : decode cX6_day 6 = .ok (.invokestatic 43, 3) := by decide +kernel
theorem dX6_day_9 : decode cX6_day 9 = .ok (.dup2, 1) := by decide +kernel
theorem dX6_day_10 : decode cX6_day 10 = .ok (.iaload, 1) := by decide +kernel
theorem dX6_day_11 : decode cX6_day 11 = .ok (.iconst 1, 1) := by decide +kernel
theorem dX6_day_12 : decode cX6_day 12 = .ok (.iadd, 1) := by decide +kernel
theorem dX6_day_13 : decode cX6_day 13 = .ok (.iastore, 1) := by decide +kernel
theorem dX6_day_14 : decode cX6_day 14 = .ok (.aload_n 0, 1) := by decide +kernel
theorem dX6_day_15 : decode cX6_day 15 = .ok (.getfield 7, 3) := by decide +kernel
theorem dX6_day_18 : decode cX6_day 18 = .ok (.iload_n 1, 1) := by decide +kernel
theorem dX6_day_19 : decode cX6_day 19 = .ok (.bipush 6, 2) := by decide +kernel
theorem dX6_day_21 : decode cX6_day 21 = .ok (.invokestatic 43, 3) := by decide +kernel
theorem dX6_day_24 : decode cX6_day 24 = .ok (.iaload, 1) := by decide +kernel
theorem dX6_day_25 : decode cX6_day 25 = .ok (.iconst 1, 1) := by decide +kernel
theorem dX6_day_26 : decode cX6_day 26 = .ok (.if_icmp .ne 64, 3) := by decide +kernel
theorem dX6_day_29 : decode cX6_day 29 = .ok (.aload_n 0, 1) := by decide +kernel
theorem dX6_day_30 : decode cX6_day 30 = .ok (.getfield 7, 3) := by decide +kernel
theorem dX6_day_33 : decode cX6_day 33 = .ok (.iload_n 1, 1) := by decide +kernel
theorem dX6_day_34 : decode cX6_day 34 = .ok (.iconst 4, 1) := by decide +kernel
theorem dX6_day_35 : decode cX6_day 35 = .ok (.invokestatic 43, 3) := by decide +kernel
theorem dX6_day_38 : decode cX6_day 38 = .ok (.dup2, 1) := by decide +kernel
theorem dX6_day_39 : decode cX6_day 39 = .ok (.iaload, 1) := by decide +kernel
theorem dX6_day_40 : decode cX6_day 40 = .ok (.aload_n 0, 1) := by decide +kernel
theorem dX6_day_41 : decode cX6_day 41 = .ok (.iload_n 1, 1) := by decide +kernel
theorem dX6_day_42 : decode cX6_day 42 = .ok (.invokevirtual 54, 3) := by decide +kernel
theorem dX6_day_45 : decode cX6_day 45 = .ok (.iadd, 1) := by decide +kernel
theorem dX6_day_46 : decode cX6_day 46 = .ok (.iastore, 1) := by decide +kernel
theorem dX6_day_47 : decode cX6_day 47 = .ok (.aload_n 0, 1) := by decide +kernel
theorem dX6_day_48 : decode cX6_day 48 = .ok (.getfield 7, 3) := by decide +kernel
theorem dX6_day_51 : decode cX6_day 51 = .ok (.iload_n 1, 1) := by decide +kernel
theorem dX6_day_52 : decode cX6_day 52 = .ok (.iconst 5, 1) := by decide +kernel
theorem dX6_day_53 : decode cX6_day 53 = .ok (.invokestatic 43, 3) := by decide +kernel
theorem dX6_day_56 : decode cX6_day 56 = .ok (.iaload, 1) := by decide +kernel
theorem dX6_day_57 : decode cX6_day 57 = .ok (.aload_n 0, 1) := by decide +kernel
theorem dX6_day_58 : decode cX6_day 58 = .ok (.getfield 7, 3) := by decide +kernel
theorem dX6_day_61 : decode cX6_day 61 = .ok (.iconst 1, 1) := by decide +kernel
theorem dX6_day_62 : decode cX6_day 62 = .ok (.iaload, 1) := by decide +kernel
theorem dX6_day_63 : decode cX6_day 63 = .ok (.if_icmp .le 27, 3) := by decide +kernel
theorem dX6_day_66 : decode cX6_day 66 = .ok (.aload_n 0, 1) := by decide +kernel
theorem dX6_day_67 : decode cX6_day 67 = .ok (.getfield 7, 3) := by decide +kernel
theorem dX6_day_70 : decode cX6_day 70 = .ok (.iload_n 1, 1) := by decide +kernel
theorem dX6_day_71 : decode cX6_day 71 = .ok (.bipush 6, 2) := by decide +kernel
theorem dX6_day_73 : decode cX6_day 73 = .ok (.invokestatic 43, 3) := by decide +kernel
theorem dX6_day_76 : decode cX6_day 76 = .ok (.iconst 0, 1) := by decide +kernel
theorem dX6_day_77 : decode cX6_day 77 = .ok (.iastore, 1) := by decide +kernel
theorem dX6_day_78 : decode cX6_day 78 = .ok (.aload_n 0, 1) := by decide +kernel
theorem dX6_day_79 : decode cX6_day 79 = .ok (.getfield 7, 3) := by decide +kernel
theorem dX6_day_82 : decode cX6_day 82 = .ok (.iload_n 1, 1) := by decide +kernel
theorem dX6_day_83 : decode cX6_day 83 = .ok (.iconst 4, 1) := by decide +kernel
theorem dX6_day_84 : decode cX6_day 84 = .ok (.invokestatic 43, 3) := by decide +kernel
theorem dX6_day_87 : decode cX6_day 87 = .ok (.ldc 57, 2) := by decide +kernel
theorem dX6_day_89 : decode cX6_day 89 = .ok (.iastore, 1) := by decide +kernel
theorem dX6_day_90 : decode cX6_day 90 = .ok (.return_, 1) := by decide +kernel
set_option maxRecDepth 20000 in
theorem ggX6_way_X6_size : GoodIn wsX6_way wsX6_size := goodIn_r _ [5] (by decide +kernel) (by decide +kernel)
set_option maxRecDepth 20000 in
theorem gX6_way_X6_size : GoodIn wsX6_way (va_wsS RX6 47 yX6_size wsX6_size) := goodIn_app (goodIn_of _ (by decide +kernel)) ggX6_way_X6_size
theorem dX6_way_0 : decode cX6_way 0 = .ok (.iload_n 1, 1) := by decide +kernel
theorem dX6_way_1 : decode cX6_way 1 = .ok (.iload_n 2, 1) := by decide +kernel
theorem dX6_way_2 : decode cX6_way 2 = .ok (.isub, 1) := by decide +kernel
theorem dX6_way_3 : decode cX6_way 3 = .ok (.invokestatic 47, 3) := by decide +kernel
theorem dX6_way_6 : decode cX6_way 6 = .ok (.aload_n 0, 1) := by decide +kernel
theorem dX6_way_7 : decode cX6_way 7 = .ok (.getfield 7, 3) := by decide +kernel
theorem dX6_way_10 : decode cX6_way 10 = .ok (.iconst 2, 1) := by decide +kernel
theorem dX6_way_11 : decode cX6_way 11 = .ok (.iaload, 1) := by decide +kernel
theorem dX6_way_12 : decode cX6_way 12 = .ok (.imul, 1) := by decide +kernel
theorem dX6_way_13 : decode cX6_way 13 = .ok (.ireturn, 1) := by decide +kernel
set_option maxRecDepth 20000 in
theorem ggX6_minutes_X6_ladderOf : GoodIn wsX6_minutes wsX6_ladderOf := goodIn_r _ [8, 3, 9, 10, 7, 11, 23, 24, 25, 26, 27, 28, 29, 30, 31, 32, 33, 34, 35, 36, 37, 38, 39] (by decide +kernel) (by decide +kernel)
set_option maxRecDepth 20000 in
theorem gX6_minutes_X6_ladderOf : GoodIn wsX6_minutes (wsV RX6 51 RX6 yX6_ladderOf wsX6_ladderOf) := goodIn_app (goodIn_of _ (by decide +kernel)) ggX6_minutes_X6_ladderOf
set_option maxRecDepth 20000 in
theorem ggX6_minutes_X6_at : GoodIn wsX6_minutes wsX6_at := goodIn_r _ [11] (by decide +kernel) (by decide +kernel)
set_option maxRecDepth 20000 in
theorem gX6_minutes_X6_at : GoodIn wsX6_minutes (va_wsS RX6 43 yX6_at wsX6_at) := goodIn_app (goodIn_of _ (by decide +kernel)) ggX6_minutes_X6_at
set_option maxRecDepth 20000 in
theorem ggX6_minutes_X6_way : GoodIn wsX6_minutes wsX6_way := goodIn_r _ [15, 3, 16, 17, 7, 18, 23, 24, 25, 26, 27, 28, 29, 30, 31, 32, 33, 34, 35, 36, 37, 38, 39] (by decide +kernel) (by decide +kernel)
set_option maxRecDepth 20000 in
theorem gX6_minutes_X6_way : GoodIn wsX6_minutes (wsV RX6 61 RX6 yX6_way wsX6_way) := goodIn_app (goodIn_of _ (by decide +kernel)) ggX6_minutes_X6_way
set_option maxRecDepth 20000 in
theorem ggX6_minutes_X6_canWind : GoodIn wsX6_minutes wsX6_canWind := goodIn_r _ [22, 3, 9, 10, 7, 11, 4, 5, 6, 8, 23, 24, 25, 26, 27, 28, 29, 30, 31, 32, 33, 34, 35, 36, 37, 38, 39] (by decide +kernel) (by decide +kernel)
set_option maxRecDepth 20000 in
theorem gX6_minutes_X6_canWind : GoodIn wsX6_minutes (wsV RX6 64 RX6 yX6_canWind wsX6_canWind) := goodIn_app (goodIn_of _ (by decide +kernel)) ggX6_minutes_X6_canWind
theorem dX6_minutes_0 : decode cX6_minutes 0 = .ok (.iconst 0, 1) := by decide +kernel
theorem dX6_minutes_1 : decode cX6_minutes 1 = .ok (.istore_n 1, 1) := by decide +kernel
theorem dX6_minutes_2 : decode cX6_minutes 2 = .ok (.iconst 0, 1) := by decide +kernel
theorem dX6_minutes_3 : decode cX6_minutes 3 = .ok (.istore_n 2, 1) := by decide +kernel
theorem dX6_minutes_4 : decode cX6_minutes 4 = .ok (.bipush (-6), 2) := by decide +kernel
theorem dX6_minutes_6 : decode cX6_minutes 6 = .ok (.istore_n 3, 1) := by decide +kernel
theorem dX6_minutes_7 : decode cX6_minutes 7 = .ok (.iconst 0, 1) := by decide +kernel
theorem dX6_minutes_8 : decode cX6_minutes 8 = .ok (.istore 4, 2) := by decide +kernel
theorem dX6_minutes_10 : decode cX6_minutes 10 = .ok (.iload 4, 2) := by decide +kernel
theorem dX6_minutes_12 : decode cX6_minutes 12 = .ok (.aload_n 0, 1) := by decide +kernel
theorem dX6_minutes_13 : decode cX6_minutes 13 = .ok (.getfield 58, 3) := by decide +kernel
theorem dX6_minutes_16 : decode cX6_minutes 16 = .ok (.if_icmp .ge 112, 3) := by decide +kernel
theorem dX6_minutes_19 : decode cX6_minutes 19 = .ok (.aload_n 0, 1) := by decide +kernel
theorem dX6_minutes_20 : decode cX6_minutes 20 = .ok (.getfield 29, 3) := by decide +kernel
theorem dX6_minutes_23 : decode cX6_minutes 23 = .ok (.iload 4, 2) := by decide +kernel
theorem dX6_minutes_25 : decode cX6_minutes 25 = .ok (.iaload, 1) := by decide +kernel
theorem dX6_minutes_26 : decode cX6_minutes 26 = .ok (.istore 5, 2) := by decide +kernel
theorem dX6_minutes_28 : decode cX6_minutes 28 = .ok (.aload_n 0, 1) := by decide +kernel
theorem dX6_minutes_29 : decode cX6_minutes 29 = .ok (.iload 5, 2) := by decide +kernel
theorem dX6_minutes_31 : decode cX6_minutes 31 = .ok (.invokevirtual 51, 3) := by decide +kernel
theorem dX6_minutes_34 : decode cX6_minutes 34 = .ok (.istore 6, 2) := by decide +kernel
theorem dX6_minutes_36 : decode cX6_minutes 36 = .ok (.aload_n 0, 1) := by decide +kernel
theorem dX6_minutes_37 : decode cX6_minutes 37 = .ok (.getfield 7, 3) := by decide +kernel
theorem dX6_minutes_40 : decode cX6_minutes 40 = .ok (.iload 5, 2) := by decide +kernel
theorem dX6_minutes_42 : decode cX6_minutes 42 = .ok (.iconst 0, 1) := by decide +kernel
theorem dX6_minutes_43 : decode cX6_minutes 43 = .ok (.invokestatic 43, 3) := by decide +kernel
theorem dX6_minutes_46 : decode cX6_minutes 46 = .ok (.iaload, 1) := by decide +kernel
theorem dX6_minutes_47 : decode cX6_minutes 47 = .ok (.istore 7, 2) := by decide +kernel
theorem dX6_minutes_49 : decode cX6_minutes 49 = .ok (.iload_n 1, 1) := by decide +kernel
theorem dX6_minutes_50 : decode cX6_minutes 50 = .ok (.aload_n 0, 1) := by decide +kernel
theorem dX6_minutes_51 : decode cX6_minutes 51 = .ok (.iload_n 2, 1) := by decide +kernel
theorem dX6_minutes_52 : decode cX6_minutes 52 = .ok (.iload 7, 2) := by decide +kernel
theorem dX6_minutes_54 : decode cX6_minutes 54 = .ok (.invokevirtual 61, 3) := by decide +kernel
theorem dX6_minutes_57 : decode cX6_minutes 57 = .ok (.iadd, 1) := by decide +kernel
theorem dX6_minutes_58 : decode cX6_minutes 58 = .ok (.istore_n 1, 1) := by decide +kernel
theorem dX6_minutes_59 : decode cX6_minutes 59 = .ok (.iload 7, 2) := by decide +kernel
theorem dX6_minutes_61 : decode cX6_minutes 61 = .ok (.istore_n 2, 1) := by decide +kernel
theorem dX6_minutes_62 : decode cX6_minutes 62 = .ok (.aload_n 0, 1) := by decide +kernel
theorem dX6_minutes_63 : decode cX6_minutes 63 = .ok (.iload 5, 2) := by decide +kernel
theorem dX6_minutes_65 : decode cX6_minutes 65 = .ok (.invokevirtual 64, 3) := by decide +kernel
theorem dX6_minutes_68 : decode cX6_minutes 68 = .ok (.ifCond .eq 54, 3) := by decide +kernel
theorem dX6_minutes_71 : decode cX6_minutes 71 = .ok (.iload_n 1, 1) := by decide +kernel
theorem dX6_minutes_72 : decode cX6_minutes 72 = .ok (.aload_n 0, 1) := by decide +kernel
theorem dX6_minutes_73 : decode cX6_minutes 73 = .ok (.getfield 7, 3) := by decide +kernel
theorem dX6_minutes_76 : decode cX6_minutes 76 = .ok (.iconst 3, 1) := by decide +kernel
theorem dX6_minutes_77 : decode cX6_minutes 77 = .ok (.iaload, 1) := by decide +kernel
theorem dX6_minutes_78 : decode cX6_minutes 78 = .ok (.iadd, 1) := by decide +kernel
theorem dX6_minutes_79 : decode cX6_minutes 79 = .ok (.istore_n 1, 1) := by decide +kernel
theorem dX6_minutes_80 : decode cX6_minutes 80 = .ok (.iload_n 1, 1) := by decide +kernel
theorem dX6_minutes_81 : decode cX6_minutes 81 = .ok (.iload 6, 2) := by decide +kernel
theorem dX6_minutes_83 : decode cX6_minutes 83 = .ok (.bipush (-6), 2) := by decide +kernel
theorem dX6_minutes_85 : decode cX6_minutes 85 = .ok (.if_icmp .eq 9, 3) := by decide +kernel
theorem dX6_minutes_88 : decode cX6_minutes 88 = .ok (.iload 6, 2) := by decide +kernel
theorem dX6_minutes_90 : decode cX6_minutes 90 = .ok (.iload_n 3, 1) := by decide +kernel
theorem dX6_minutes_91 : decode cX6_minutes 91 = .ok (.if_icmp .ne 7, 3) := by decide +kernel
theorem dX6_minutes_94 : decode cX6_minutes 94 = .ok (.iconst 0, 1) := by decide +kernel
theorem dX6_minutes_95 : decode cX6_minutes 95 = .ok (.goto 11, 3) := by decide +kernel
theorem dX6_minutes_98 : decode cX6_minutes 98 = .ok (.iconst 2, 1) := by decide +kernel
theorem dX6_minutes_99 : decode cX6_minutes 99 = .ok (.aload_n 0, 1) := by decide +kernel
theorem dX6_minutes_100 : decode cX6_minutes 100 = .ok (.iload_n 2, 1) := by decide +kernel
theorem dX6_minutes_101 : decode cX6_minutes 101 = .ok (.iconst 0, 1) := by decide +kernel
theorem dX6_minutes_102 : decode cX6_minutes 102 = .ok (.invokevirtual 61, 3) := by decide +kernel
theorem dX6_minutes_105 : decode cX6_minutes 105 = .ok (.imul, 1) := by decide +kernel
theorem dX6_minutes_106 : decode cX6_minutes 106 = .ok (.iadd, 1) := by decide +kernel
theorem dX6_minutes_107 : decode cX6_minutes 107 = .ok (.istore_n 1, 1) := by decide +kernel
theorem dX6_minutes_108 : decode cX6_minutes 108 = .ok (.iload 6, 2) := by decide +kernel
theorem dX6_minutes_110 : decode cX6_minutes 110 = .ok (.bipush (-6), 2) := by decide +kernel
theorem dX6_minutes_112 : decode cX6_minutes 112 = .ok (.if_icmp .ne 7, 3) := by decide +kernel
theorem dX6_minutes_115 : decode cX6_minutes 115 = .ok (.iload_n 3, 1) := by decide +kernel
theorem dX6_minutes_116 : decode cX6_minutes 116 = .ok (.goto 5, 3) := by decide +kernel
theorem dX6_minutes_119 : decode cX6_minutes 119 = .ok (.iload 6, 2) := by decide +kernel
theorem dX6_minutes_121 : decode cX6_minutes 121 = .ok (.istore_n 3, 1) := by decide +kernel
theorem dX6_minutes_122 : decode cX6_minutes 122 = .ok (.iinc 4 1, 3) := by decide +kernel
theorem dX6_minutes_125 : decode cX6_minutes 125 = .ok (.goto (-115), 3) := by decide +kernel
theorem dX6_minutes_128 : decode cX6_minutes 128 = .ok (.iload_n 1, 1) := by decide +kernel
theorem dX6_minutes_129 : decode cX6_minutes 129 = .ok (.aload_n 0, 1) := by decide +kernel
theorem dX6_minutes_130 : decode cX6_minutes 130 = .ok (.iload_n 2, 1) := by decide +kernel
theorem dX6_minutes_131 : decode cX6_minutes 131 = .ok (.iconst 0, 1) := by decide +kernel
theorem dX6_minutes_132 : decode cX6_minutes 132 = .ok (.invokevirtual 61, 3) := by decide +kernel
theorem dX6_minutes_135 : decode cX6_minutes 135 = .ok (.iadd, 1) := by decide +kernel
theorem dX6_minutes_136 : decode cX6_minutes 136 = .ok (.ireturn, 1) := by decide +kernel
set_option maxRecDepth 20000 in
theorem ggX6_work_X6_rate : GoodIn wsX6_work wsX6_rate := goodIn_r _ [6, 1, 7, 8, 5, 9, 16, 17, 18, 19, 20, 21, 22, 23, 24, 25, 26, 27, 28, 29, 30, 31, 32] (by decide +kernel) (by decide +kernel)
set_option maxRecDepth 20000 in
theorem gX6_work_X6_rate : GoodIn wsX6_work (wsV RX6 54 RX6 yX6_rate wsX6_rate) := goodIn_app (goodIn_of _ (by decide +kernel)) ggX6_work_X6_rate
set_option maxRecDepth 20000 in
theorem ggX6_work_X6_at : GoodIn wsX6_work wsX6_at := goodIn_r _ [9] (by decide +kernel) (by decide +kernel)
set_option maxRecDepth 20000 in
theorem gX6_work_X6_at : GoodIn wsX6_work (va_wsS RX6 43 yX6_at wsX6_at) := goodIn_app (goodIn_of _ (by decide +kernel)) ggX6_work_X6_at
set_option maxRecDepth 20000 in
theorem ggX6_work_X6_size : GoodIn wsX6_work wsX6_size := goodIn_r _ [12] (by decide +kernel) (by decide +kernel)
set_option maxRecDepth 20000 in
theorem gX6_work_X6_size : GoodIn wsX6_work (va_wsS RX6 47 yX6_size wsX6_size) := goodIn_app (goodIn_of _ (by decide +kernel)) ggX6_work_X6_size
set_option maxRecDepth 20000 in
theorem ggX6_work_X6_in : GoodIn wsX6_work wsX6_in := goodIn_r _ [15] (by decide +kernel) (by decide +kernel)
set_option maxRecDepth 20000 in
theorem gX6_work_X6_in : GoodIn wsX6_work (va_wsS RX6 35 yX6_in wsX6_in) := goodIn_app (goodIn_of _ (by decide +kernel)) ggX6_work_X6_in
theorem dX6_work_0 : decode cX6_work 0 = .ok (.aload_n 0, 1) := by decide +kernel
theorem dX6_work_1 : decode cX6_work 1 = .ok (.iload_n 1, 1) := by decide +kernel
theorem dX6_work_2 : decode cX6_work 2 = .ok (.invokevirtual 54, 3) := by decide +kernel
theorem dX6_work_5 : decode cX6_work 5 = .ok (.istore_n 2, 1) := by decide +kernel
theorem dX6_work_6 : decode cX6_work 6 = .ok (.aload_n 0, 1) := by decide +kernel
theorem dX6_work_7 : decode cX6_work 7 = .ok (.getfield 7, 3) := by decide +kernel
theorem dX6_work_10 : decode cX6_work 10 = .ok (.iload_n 1, 1) := by decide +kernel
theorem dX6_work_11 : decode cX6_work 11 = .ok (.iconst 3, 1) := by decide +kernel
theorem dX6_work_12 : decode cX6_work 12 = .ok (.invokestatic 43, 3) := by decide +kernel
theorem dX6_work_15 : decode cX6_work 15 = .ok (.iaload, 1) := by decide +kernel
theorem dX6_work_16 : decode cX6_work 16 = .ok (.istore_n 3, 1) := by decide +kernel
theorem dX6_work_17 : decode cX6_work 17 = .ok (.aload_n 0, 1) := by decide +kernel
theorem dX6_work_18 : decode cX6_work 18 = .ok (.getfield 7, 3) := by decide +kernel
theorem dX6_work_21 : decode cX6_work 21 = .ok (.iload_n 1, 1) := by decide +kernel
theorem dX6_work_22 : decode cX6_work 22 = .ok (.bipush 6, 2) := by decide +kernel
theorem dX6_work_24 : decode cX6_work 24 = .ok (.invokestatic 43, 3) := by decide +kernel
theorem dX6_work_27 : decode cX6_work 27 = .ok (.iaload, 1) := by decide +kernel
theorem dX6_work_28 : decode cX6_work 28 = .ok (.iconst 1, 1) := by decide +kernel
theorem dX6_work_29 : decode cX6_work 29 = .ok (.if_icmp .ne 82, 3) := by decide +kernel
theorem dX6_work_32 : decode cX6_work 32 = .ok (.aload_n 0, 1) := by decide +kernel
theorem dX6_work_33 : decode cX6_work 33 = .ok (.getfield 7, 3) := by decide +kernel
theorem dX6_work_36 : decode cX6_work 36 = .ok (.iload_n 1, 1) := by decide +kernel
theorem dX6_work_37 : decode cX6_work 37 = .ok (.iconst 4, 1) := by decide +kernel
theorem dX6_work_38 : decode cX6_work 38 = .ok (.invokestatic 43, 3) := by decide +kernel
theorem dX6_work_41 : decode cX6_work 41 = .ok (.iaload, 1) := by decide +kernel
theorem dX6_work_42 : decode cX6_work 42 = .ok (.invokestatic 47, 3) := by decide +kernel
theorem dX6_work_45 : decode cX6_work 45 = .ok (.aload_n 0, 1) := by decide +kernel
theorem dX6_work_46 : decode cX6_work 46 = .ok (.getfield 7, 3) := by decide +kernel
theorem dX6_work_49 : decode cX6_work 49 = .ok (.iconst 0, 1) := by decide +kernel
theorem dX6_work_50 : decode cX6_work 50 = .ok (.iaload, 1) := by decide +kernel
theorem dX6_work_51 : decode cX6_work 51 = .ok (.iconst 2, 1) := by decide +kernel
theorem dX6_work_52 : decode cX6_work 52 = .ok (.idiv, 1) := by decide +kernel
theorem dX6_work_53 : decode cX6_work 53 = .ok (.if_icmp .le 58, 3) := by decide +kernel
theorem dX6_work_56 : decode cX6_work 56 = .ok (.iload_n 3, 1) := by decide +kernel
theorem dX6_work_57 : decode cX6_work 57 = .ok (.iload_n 2, 1) := by decide +kernel
theorem dX6_work_58 : decode cX6_work 58 = .ok (.ifCond .le 7, 3) := by decide +kernel
theorem dX6_work_61 : decode cX6_work 61 = .ok (.iconst (-1), 1) := by decide +kernel
theorem dX6_work_62 : decode cX6_work 62 = .ok (.goto 12, 3) := by decide +kernel
theorem dX6_work_65 : decode cX6_work 65 = .ok (.iload_n 2, 1) := by decide +kernel
theorem dX6_work_66 : decode cX6_work 66 = .ok (.ifCond .ge 7, 3) := by decide +kernel
theorem dX6_work_69 : decode cX6_work 69 = .ok (.iconst 1, 1) := by decide +kernel
theorem dX6_work_70 : decode cX6_work 70 = .ok (.goto 4, 3) := by decide +kernel
theorem dX6_work_73 : decode cX6_work 73 = .ok (.iconst 0, 1) := by decide +kernel
theorem dX6_work_74 : decode cX6_work 74 = .ok (.iadd, 1) := by decide +kernel
theorem dX6_work_75 : decode cX6_work 75 = .ok (.istore_n 3, 1) := by decide +kernel
theorem dX6_work_76 : decode cX6_work 76 = .ok (.aload_n 0, 1) := by decide +kernel
theorem dX6_work_77 : decode cX6_work 77 = .ok (.getfield 7, 3) := by decide +kernel
theorem dX6_work_80 : decode cX6_work 80 = .ok (.iload_n 1, 1) := by decide +kernel
theorem dX6_work_81 : decode cX6_work 81 = .ok (.iconst 3, 1) := by decide +kernel
theorem dX6_work_82 : decode cX6_work 82 = .ok (.invokestatic 43, 3) := by decide +kernel
theorem dX6_work_85 : decode cX6_work 85 = .ok (.iload_n 3, 1) := by decide +kernel
theorem dX6_work_86 : decode cX6_work 86 = .ok (.bipush (-20), 2) := by decide +kernel
theorem dX6_work_88 : decode cX6_work 88 = .ok (.bipush 20, 2) := by decide +kernel
theorem dX6_work_90 : decode cX6_work 90 = .ok (.invokestatic 35, 3) := by decide +kernel
theorem dX6_work_93 : decode cX6_work 93 = .ok (.ifCond .eq 7, 3) := by decide +kernel
theorem dX6_work_96 : decode cX6_work 96 = .ok (.iload_n 3, 1) := by decide +kernel
theorem dX6_work_97 : decode cX6_work 97 = .ok (.goto 13, 3) := by decide +kernel
theorem dX6_work_100 : decode cX6_work 100 = .ok (.aload_n 0, 1) := by decide +kernel
theorem dX6_work_101 : decode cX6_work 101 = .ok (.getfield 7, 3) := by decide +kernel
theorem dX6_work_104 : decode cX6_work 104 = .ok (.iload_n 1, 1) := by decide +kernel
theorem dX6_work_105 : decode cX6_work 105 = .ok (.iconst 3, 1) := by decide +kernel
theorem dX6_work_106 : decode cX6_work 106 = .ok (.invokestatic 43, 3) := by decide +kernel
theorem dX6_work_109 : decode cX6_work 109 = .ok (.iaload, 1) := by decide +kernel
theorem dX6_work_110 : decode cX6_work 110 = .ok (.iastore, 1) := by decide +kernel
theorem dX6_work_111 : decode cX6_work 111 = .ok (.aload_n 0, 1) := by decide +kernel
theorem dX6_work_112 : decode cX6_work 112 = .ok (.getfield 7, 3) := by decide +kernel
theorem dX6_work_115 : decode cX6_work 115 = .ok (.iload_n 1, 1) := by decide +kernel
theorem dX6_work_116 : decode cX6_work 116 = .ok (.bipush 6, 2) := by decide +kernel
theorem dX6_work_118 : decode cX6_work 118 = .ok (.invokestatic 43, 3) := by decide +kernel
theorem dX6_work_121 : decode cX6_work 121 = .ok (.iconst 1, 1) := by decide +kernel
theorem dX6_work_122 : decode cX6_work 122 = .ok (.iastore, 1) := by decide +kernel
theorem dX6_work_123 : decode cX6_work 123 = .ok (.aload_n 0, 1) := by decide +kernel
theorem dX6_work_124 : decode cX6_work 124 = .ok (.getfield 7, 3) := by decide +kernel
theorem dX6_work_127 : decode cX6_work 127 = .ok (.iload_n 1, 1) := by decide +kernel
theorem dX6_work_128 : decode cX6_work 128 = .ok (.iconst 4, 1) := by decide +kernel
theorem dX6_work_129 : decode cX6_work 129 = .ok (.invokestatic 43, 3) := by decide +kernel
theorem dX6_work_132 : decode cX6_work 132 = .ok (.iconst 0, 1) := by decide +kernel
theorem dX6_work_133 : decode cX6_work 133 = .ok (.iastore, 1) := by decide +kernel
theorem dX6_work_134 : decode cX6_work 134 = .ok (.aload_n 0, 1) := by decide +kernel
theorem dX6_work_135 : decode cX6_work 135 = .ok (.getfield 7, 3) := by decide +kernel
theorem dX6_work_138 : decode cX6_work 138 = .ok (.iload_n 1, 1) := by decide +kernel
theorem dX6_work_139 : decode cX6_work 139 = .ok (.iconst 5, 1) := by decide +kernel
theorem dX6_work_140 : decode cX6_work 140 = .ok (.invokestatic 43, 3) := by decide +kernel
theorem dX6_work_143 : decode cX6_work 143 = .ok (.iconst 0, 1) := by decide +kernel
theorem dX6_work_144 : decode cX6_work 144 = .ok (.iastore, 1) := by decide +kernel
theorem dX6_work_145 : decode cX6_work 145 = .ok (.aload_n 0, 1) := by decide +kernel
theorem dX6_work_146 : decode cX6_work 146 = .ok (.getfield 7, 3) := by decide +kernel
theorem dX6_work_149 : decode cX6_work 149 = .ok (.iload_n 1, 1) := by decide +kernel
theorem dX6_work_150 : decode cX6_work 150 = .ok (.bipush 7, 2) := by decide +kernel
theorem dX6_work_152 : decode cX6_work 152 = .ok (.invokestatic 43, 3) := by decide +kernel
theorem dX6_work_155 : decode cX6_work 155 = .ok (.dup2, 1) := by decide +kernel
theorem dX6_work_156 : decode cX6_work 156 = .ok (.iaload, 1) := by decide +kernel
theorem dX6_work_157 : decode cX6_work 157 = .ok (.iconst 1, 1) := by decide +kernel
theorem dX6_work_158 : decode cX6_work 158 = .ok (.iadd, 1) := by decide +kernel
theorem dX6_work_159 : decode cX6_work 159 = .ok (.iastore, 1) := by decide +kernel
theorem dX6_work_160 : decode cX6_work 160 = .ok (.return_, 1) := by decide +kernel
set_option maxRecDepth 20000 in
theorem ggX6_goes_X6_minutes : GoodIn wsX6_goes wsX6_minutes := goodIn_r _ [8, 1, 2, 3, 9, 10, 11, 7, 12, 13, 14, 15, 16, 17, 18, 19, 20, 21, 22, 23, 24, 25, 26, 38, 39, 40, 41, 42, 43, 44, 45, 46, 47, 48, 49, 50, 51, 52, 53, 54] (by decide +kernel) (by decide +kernel)
set_option maxRecDepth 20000 in
theorem gX6_goes_X6_minutes : GoodIn wsX6_goes (wsV RX6 68 RX6 yX6_minutes wsX6_minutes) := goodIn_app (goodIn_of _ (by decide +kernel)) ggX6_goes_X6_minutes
set_option maxRecDepth 20000 in
theorem ggX6_goes_X6_canWind : GoodIn wsX6_goes wsX6_canWind := goodIn_r _ [26, 3, 13, 14, 7, 15, 9, 10, 11, 12, 38, 39, 40, 41, 42, 43, 44, 45, 46, 47, 48, 49, 50, 51, 52, 53, 54] (by decide +kernel) (by decide +kernel)
set_option maxRecDepth 20000 in
theorem gX6_goes_X6_canWind : GoodIn wsX6_goes (wsV RX6 64 RX6 yX6_canWind wsX6_canWind) := goodIn_app (goodIn_of _ (by decide +kernel)) ggX6_goes_X6_canWind
set_option maxRecDepth 20000 in
theorem ggX6_goes_X6_work : GoodIn wsX6_goes wsX6_work := goodIn_r _ [30, 3, 31, 32, 33, 7, 34, 13, 14, 15, 20, 21, 22, 35, 36, 37, 38, 39, 40, 41, 42, 43, 44, 45, 46, 47, 48, 49, 50, 51, 52, 53, 54] (by decide +kernel) (by decide +kernel)
set_option maxRecDepth 20000 in
theorem gX6_goes_X6_work : GoodIn wsX6_goes (wsV RX6 72 RX6 yX6_work wsX6_work) := goodIn_app (goodIn_of _ (by decide +kernel)) ggX6_goes_X6_work
theorem dX6_goes_0 : decode cX6_goes 0 = .ok (.aload_n 0, 1) := by decide +kernel
theorem dX6_goes_1 : decode cX6_goes 1 = .ok (.invokevirtual 68, 3) := by decide +kernel
theorem dX6_goes_4 : decode cX6_goes 4 = .ok (.istore_n 1, 1) := by decide +kernel
theorem dX6_goes_5 : decode cX6_goes 5 = .ok (.iconst 0, 1) := by decide +kernel
theorem dX6_goes_6 : decode cX6_goes 6 = .ok (.istore_n 2, 1) := by decide +kernel
theorem dX6_goes_7 : decode cX6_goes 7 = .ok (.iload_n 2, 1) := by decide +kernel
theorem dX6_goes_8 : decode cX6_goes 8 = .ok (.aload_n 0, 1) := by decide +kernel
theorem dX6_goes_9 : decode cX6_goes 9 = .ok (.getfield 58, 3) := by decide +kernel
theorem dX6_goes_12 : decode cX6_goes 12 = .ok (.if_icmp .ge 32, 3) := by decide +kernel
theorem dX6_goes_15 : decode cX6_goes 15 = .ok (.aload_n 0, 1) := by decide +kernel
theorem dX6_goes_16 : decode cX6_goes 16 = .ok (.aload_n 0, 1) := by decide +kernel
theorem dX6_goes_17 : decode cX6_goes 17 = .ok (.getfield 29, 3) := by decide +kernel
theorem dX6_goes_20 : decode cX6_goes 20 = .ok (.iload_n 2, 1) := by decide +kernel
theorem dX6_goes_21 : decode cX6_goes 21 = .ok (.iaload, 1) := by decide +kernel
theorem dX6_goes_22 : decode cX6_goes 22 = .ok (.invokevirtual 64, 3) := by decide +kernel
theorem dX6_goes_25 : decode cX6_goes 25 = .ok (.ifCond .eq 13, 3) := by decide +kernel
theorem dX6_goes_28 : decode cX6_goes 28 = .ok (.aload_n 0, 1) := by decide +kernel
theorem dX6_goes_29 : decode cX6_goes 29 = .ok (.aload_n 0, 1) := by decide +kernel
theorem dX6_goes_30 : decode cX6_goes 30 = .ok (.getfield 29, 3) := by decide +kernel
theorem dX6_goes_33 : decode cX6_goes 33 = .ok (.iload_n 2, 1) := by decide +kernel
theorem dX6_goes_34 : decode cX6_goes 34 = .ok (.iaload, 1) := by decide +kernel
theorem dX6_goes_35 : decode cX6_goes 35 = .ok (.invokevirtual 72, 3) := by decide +kernel
theorem dX6_goes_38 : decode cX6_goes 38 = .ok (.iinc 2 1, 3) := by decide +kernel
theorem dX6_goes_41 : decode cX6_goes 41 = .ok (.goto (-34), 3) := by decide +kernel
theorem dX6_goes_44 : decode cX6_goes 44 = .ok (.aload_n 0, 1) := by decide +kernel
theorem dX6_goes_45 : decode cX6_goes 45 = .ok (.getfield 7, 3) := by decide +kernel
theorem dX6_goes_48 : decode cX6_goes 48 = .ok (.bipush 7, 2) := by decide +kernel
theorem dX6_goes_50 : decode cX6_goes 50 = .ok (.dup2, 1) := by decide +kernel
theorem dX6_goes_51 : decode cX6_goes 51 = .ok (.iaload, 1) := by decide +kernel
theorem dX6_goes_52 : decode cX6_goes 52 = .ok (.iload_n 1, 1) := by decide +kernel
theorem dX6_goes_53 : decode cX6_goes 53 = .ok (.iadd, 1) := by decide +kernel
theorem dX6_goes_54 : decode cX6_goes 54 = .ok (.iastore, 1) := by decide +kernel
theorem dX6_goes_55 : decode cX6_goes 55 = .ok (.iload_n 1, 1) := by decide +kernel
theorem dX6_goes_56 : decode cX6_goes 56 = .ok (.ireturn, 1) := by decide +kernel
theorem dX6_layOut_0 : decode cX6_layOut 0 = .ok (.aload_n 0, 1) := by decide +kernel
theorem dX6_layOut_1 : decode cX6_layOut 1 = .ok (.iconst 0, 1) := by decide +kernel
theorem dX6_layOut_2 : decode cX6_layOut 2 = .ok (.putfield 58, 3) := by decide +kernel
theorem dX6_layOut_5 : decode cX6_layOut 5 = .ok (.iconst 0, 1) := by decide +kernel
theorem dX6_layOut_6 : decode cX6_layOut 6 = .ok (.istore_n 3, 1) := by decide +kernel
theorem dX6_layOut_7 : decode cX6_layOut 7 = .ok (.iload_n 3, 1) := by decide +kernel
theorem dX6_layOut_8 : decode cX6_layOut 8 = .ok (.aload_n 0, 1) := by decide +kernel
theorem dX6_layOut_9 : decode cX6_layOut 9 = .ok (.getfield 7, 3) := by decide +kernel
theorem dX6_layOut_12 : decode cX6_layOut 12 = .ok (.iconst 5, 1) := by decide +kernel
theorem dX6_layOut_13 : decode cX6_layOut 13 = .ok (.iaload, 1) := by decide +kernel
theorem dX6_layOut_14 : decode cX6_layOut 14 = .ok (.if_icmp .ge 60, 3) := by decide +kernel
theorem dX6_layOut_17 : decode cX6_layOut 17 = .ok (.iload_n 2, 1) := by decide +kernel
theorem dX6_layOut_18 : decode cX6_layOut 18 = .ok (.ifCond .eq 16, 3) := by decide +kernel
theorem dX6_layOut_21 : decode cX6_layOut 21 = .ok (.aload_n 0, 1) := by decide +kernel
theorem dX6_layOut_22 : decode cX6_layOut 22 = .ok (.getfield 7, 3) := by decide +kernel
theorem dX6_layOut_25 : decode cX6_layOut 25 = .ok (.iconst 5, 1) := by decide +kernel
theorem dX6_layOut_26 : decode cX6_layOut 26 = .ok (.iaload, 1) := by decide +kernel
theorem dX6_layOut_27 : decode cX6_layOut 27 = .ok (.iconst 1, 1) := by decide +kernel
theorem dX6_layOut_28 : decode cX6_layOut 28 = .ok (.isub, 1) := by decide +kernel
theorem dX6_layOut_29 : decode cX6_layOut 29 = .ok (.iload_n 3, 1) := by decide +kernel
theorem dX6_layOut_30 : decode cX6_layOut 30 = .ok (.isub, 1) := by decide +kernel
theorem dX6_layOut_31 : decode cX6_layOut 31 = .ok (.goto 4, 3) := by decide +kernel
theorem dX6_layOut_34 : decode cX6_layOut 34 = .ok (.iload_n 3, 1) := by decide +kernel
theorem dX6_layOut_35 : decode cX6_layOut 35 = .ok (.istore 4, 2) := by decide +kernel
theorem dX6_layOut_37 : decode cX6_layOut 37 = .ok (.iload_n 1, 1) := by decide +kernel
theorem dX6_layOut_38 : decode cX6_layOut 38 = .ok (.iload 4, 2) := by decide +kernel
theorem dX6_layOut_40 : decode cX6_layOut 40 = .ok (.ishr, 1) := by decide +kernel
theorem dX6_layOut_41 : decode cX6_layOut 41 = .ok (.iconst 1, 1) := by decide +kernel
theorem dX6_layOut_42 : decode cX6_layOut 42 = .ok (.iand, 1) := by decide +kernel
theorem dX6_layOut_43 : decode cX6_layOut 43 = .ok (.iconst 1, 1) := by decide +kernel
theorem dX6_layOut_44 : decode cX6_layOut 44 = .ok (.if_icmp .ne 24, 3) := by decide +kernel
theorem dX6_layOut_47 : decode cX6_layOut 47 = .ok (.aload_n 0, 1) := by decide +kernel
theorem dX6_layOut_48 : decode cX6_layOut 48 = .ok (.getfield 29, 3) := by decide +kernel
theorem dX6_layOut_51 : decode cX6_layOut 51 = .ok (.aload_n 0, 1) := by decide +kernel
theorem dX6_layOut_52 : decode cX6_layOut 52 = .ok (.getfield 58, 3) := by decide +kernel
theorem dX6_layOut_55 : decode cX6_layOut 55 = .ok (.iload 4, 2) := by decide +kernel
theorem dX6_layOut_57 : decode cX6_layOut 57 = .ok (.iastore, 1) := by decide +kernel
theorem dX6_layOut_58 : decode cX6_layOut 58 = .ok (.aload_n 0, 1) := by decide +kernel
theorem dX6_layOut_59 : decode cX6_layOut 59 = .ok (.dup, 1) := by decide +kernel
theorem dX6_layOut_60 : decode cX6_layOut 60 = .ok (.getfield 58, 3) := by decide +kernel
theorem dX6_layOut_63 : decode cX6_layOut 63 = .ok (.iconst 1, 1) := by decide +kernel
theorem dX6_layOut_64 : decode cX6_layOut 64 = .ok (.iadd, 1) := by decide +kernel
theorem dX6_layOut_65 : decode cX6_layOut 65 = .ok (.putfield 58, 3) := by decide +kernel
theorem dX6_layOut_68 : decode cX6_layOut 68 = .ok (.iinc 3 1, 3) := by decide +kernel
theorem dX6_layOut_71 : decode cX6_layOut 71 = .ok (.goto (-64), 3) := by decide +kernel
theorem dX6_layOut_74 : decode cX6_layOut 74 = .ok (.iload_n 1, 1) := by decide +kernel
theorem dX6_layOut_75 : decode cX6_layOut 75 = .ok (.ifCond .ge 8, 3) := by decide +kernel
theorem dX6_layOut_78 : decode cX6_layOut 78 = .ok (.bipush (-2), 2) := by decide +kernel
theorem dX6_layOut_80 : decode cX6_layOut 80 = .ok (.goto 16, 3) := by decide +kernel
theorem dX6_layOut_83 : decode cX6_layOut 83 = .ok (.aload_n 0, 1) := by decide +kernel
theorem dX6_layOut_84 : decode cX6_layOut 84 = .ok (.getfield 58, 3) := by decide +kernel
theorem dX6_layOut_87 : decode cX6_layOut 87 = .ok (.ifCond .ne 8, 3) := by decide +kernel
theorem dX6_layOut_90 : decode cX6_layOut 90 = .ok (.bipush (-5), 2) := by decide +kernel
theorem dX6_layOut_92 : decode cX6_layOut 92 = .ok (.goto 4, 3) := by decide +kernel
theorem dX6_layOut_95 : decode cX6_layOut 95 = .ok (.iconst 0, 1) := by decide +kernel
theorem dX6_layOut_96 : decode cX6_layOut 96 = .ok (.ireturn, 1) := by decide +kernel
set_option maxRecDepth 20000 in
theorem ggX6_hangFault_X6_in : GoodIn wsX6_hangFault wsX6_in := goodIn_r _ [5] (by decide +kernel) (by decide +kernel)
set_option maxRecDepth 20000 in
theorem gX6_hangFault_X6_in : GoodIn wsX6_hangFault (va_wsS RX6 35 yX6_in wsX6_in) := goodIn_app (goodIn_of _ (by decide +kernel)) ggX6_hangFault_X6_in
theorem dX6_hangFault_0 : decode cX6_hangFault 0 = .ok (.iload_n 1, 1) := by decide +kernel
theorem dX6_hangFault_1 : decode cX6_hangFault 1 = .ok (.iconst 0, 1) := by decide +kernel
theorem dX6_hangFault_2 : decode cX6_hangFault 2 = .ok (.bipush 99, 2) := by decide +kernel
theorem dX6_hangFault_4 : decode cX6_hangFault 4 = .ok (.invokestatic 35, 3) := by decide +kernel
theorem dX6_hangFault_7 : decode cX6_hangFault 7 = .ok (.ifCond .eq 24, 3) := by decide +kernel
theorem dX6_hangFault_10 : decode cX6_hangFault 10 = .ok (.iload_n 2, 1) := by decide +kernel
theorem dX6_hangFault_11 : decode cX6_hangFault 11 = .ok (.iconst 0, 1) := by decide +kernel
theorem dX6_hangFault_12 : decode cX6_hangFault 12 = .ok (.bipush 30, 2) := by decide +kernel
theorem dX6_hangFault_14 : decode cX6_hangFault 14 = .ok (.invokestatic 35, 3) := by decide +kernel
theorem dX6_hangFault_17 : decode cX6_hangFault 17 = .ok (.ifCond .eq 14, 3) := by decide +kernel
theorem dX6_hangFault_20 : decode cX6_hangFault 20 = .ok (.iload_n 3, 1) := by decide +kernel
theorem dX6_hangFault_21 : decode cX6_hangFault 21 = .ok (.bipush (-99), 2) := by decide +kernel
theorem dX6_hangFault_23 : decode cX6_hangFault 23 = .ok (.bipush 99, 2) := by decide +kernel
theorem dX6_hangFault_25 : decode cX6_hangFault 25 = .ok (.invokestatic 35, 3) := by decide +kernel
theorem dX6_hangFault_28 : decode cX6_hangFault 28 = .ok (.ifCond .ne 6, 3) := by decide +kernel
theorem dX6_hangFault_31 : decode cX6_hangFault 31 = .ok (.bipush (-2), 2) := by decide +kernel
theorem dX6_hangFault_33 : decode cX6_hangFault 33 = .ok (.ireturn, 1) := by decide +kernel
theorem dX6_hangFault_34 : decode cX6_hangFault 34 = .ok (.aload_n 0, 1) := by decide +kernel
theorem dX6_hangFault_35 : decode cX6_hangFault 35 = .ok (.getfield 7, 3) := by decide +kernel
theorem dX6_hangFault_38 : decode cX6_hangFault 38 = .ok (.iconst 5, 1) := by decide +kernel
theorem dX6_hangFault_39 : decode cX6_hangFault 39 = .ok (.iaload, 1) := by decide +kernel
theorem dX6_hangFault_40 : decode cX6_hangFault 40 = .ok (.bipush 16, 2) := by decide +kernel
theorem dX6_hangFault_42 : decode cX6_hangFault 42 = .ok (.if_icmp .ne 8, 3) := by decide +kernel
theorem dX6_hangFault_45 : decode cX6_hangFault 45 = .ok (.bipush (-4), 2) := by decide +kernel
theorem dX6_hangFault_47 : decode cX6_hangFault 47 = .ok (.goto 4, 3) := by decide +kernel
theorem dX6_hangFault_50 : decode cX6_hangFault 50 = .ok (.iconst 0, 1) := by decide +kernel
theorem dX6_hangFault_51 : decode cX6_hangFault 51 = .ok (.ireturn, 1) := by decide +kernel
set_option maxRecDepth 20000 in
theorem ggX6_hangs_X6_at : GoodIn wsX6_hangs wsX6_at := goodIn_r _ [5] (by decide +kernel) (by decide +kernel)
set_option maxRecDepth 20000 in
theorem gX6_hangs_X6_at : GoodIn wsX6_hangs (va_wsS RX6 43 yX6_at wsX6_at) := goodIn_app (goodIn_of _ (by decide +kernel)) ggX6_hangs_X6_at
theorem dX6_hangs_0 : decode cX6_hangs 0 = .ok (.aload_n 0, 1) := by decide +kernel
theorem dX6_hangs_1 : decode cX6_hangs 1 = .ok (.getfield 7, 3) := by decide +kernel
theorem dX6_hangs_4 : decode cX6_hangs 4 = .ok (.iconst 5, 1) := by decide +kernel
theorem dX6_hangs_5 : decode cX6_hangs 5 = .ok (.iaload, 1) := by decide +kernel
theorem dX6_hangs_6 : decode cX6_hangs 6 = .ok (.istore 4, 2) := by decide +kernel
theorem dX6_hangs_8 : decode cX6_hangs 8 = .ok (.iconst 0, 1) := by decide +kernel
theorem dX6_hangs_9 : decode cX6_hangs 9 = .ok (.istore 5, 2) := by decide +kernel
theorem dX6_hangs_11 : decode cX6_hangs 11 = .ok (.iload 5, 2) := by decide +kernel
theorem dX6_hangs_13 : decode cX6_hangs 13 = .ok (.bipush 8, 2) := by decide +kernel
theorem dX6_hangs_15 : decode cX6_hangs 15 = .ok (.if_icmp .ge 22, 3) := by decide +kernel
theorem dX6_hangs_18 : decode cX6_hangs 18 = .ok (.aload_n 0, 1) := by decide +kernel
theorem dX6_hangs_19 : decode cX6_hangs 19 = .ok (.getfield 7, 3) := by decide +kernel
theorem dX6_hangs_22 : decode cX6_hangs 22 = .ok (.iload 4, 2) := by decide +kernel
theorem dX6_hangs_24 : decode cX6_hangs 24 = .ok (.iload 5, 2) := by decide +kernel
theorem dX6_hangs_26 : decode cX6_hangs 26 = .ok (.invokestatic 43, 3) := by decide +kernel
theorem dX6_hangs_29 : decode cX6_hangs 29 = .ok (.iconst 0, 1) := by decide +kernel
theorem dX6_hangs_30 : decode cX6_hangs 30 = .ok (.iastore, 1) := by decide +kernel
theorem dX6_hangs_31 : decode cX6_hangs 31 = .ok (.iinc 5 1, 3) := by decide +kernel
theorem dX6_hangs_34 : decode cX6_hangs 34 = .ok (.goto (-23), 3) := by decide +kernel
theorem dX6_hangs_37 : decode cX6_hangs 37 = .ok (.aload_n 0, 1) := by decide +kernel
theorem dX6_hangs_38 : decode cX6_hangs 38 = .ok (.getfield 7, 3) := by decide +kernel
theorem dX6_hangs_41 : decode cX6_hangs 41 = .ok (.iload 4, 2) := by decide +kernel
theorem dX6_hangs_43 : decode cX6_hangs 43 = .ok (.iconst 0, 1) := by decide +kernel
theorem dX6_hangs_44 : decode cX6_hangs 44 = .ok (.invokestatic 43, 3) := by decide +kernel
theorem dX6_hangs_47 : decode cX6_hangs 47 = .ok (.iload_n 1, 1) := by decide +kernel
theorem dX6_hangs_48 : decode cX6_hangs 48 = .ok (.iastore, 1) := by decide +kernel
theorem dX6_hangs_49 : decode cX6_hangs 49 = .ok (.aload_n 0, 1) := by decide +kernel
theorem dX6_hangs_50 : decode cX6_hangs 50 = .ok (.getfield 7, 3) := by decide +kernel
theorem dX6_hangs_53 : decode cX6_hangs 53 = .ok (.iload 4, 2) := by decide +kernel
theorem dX6_hangs_55 : decode cX6_hangs 55 = .ok (.iconst 1, 1) := by decide +kernel
theorem dX6_hangs_56 : decode cX6_hangs 56 = .ok (.invokestatic 43, 3) := by decide +kernel
theorem dX6_hangs_59 : decode cX6_hangs 59 = .ok (.iload_n 2, 1) := by decide +kernel
theorem dX6_hangs_60 : decode cX6_hangs 60 = .ok (.iastore, 1) := by decide +kernel
theorem dX6_hangs_61 : decode cX6_hangs 61 = .ok (.aload_n 0, 1) := by decide +kernel
theorem dX6_hangs_62 : decode cX6_hangs 62 = .ok (.getfield 7, 3) := by decide +kernel
theorem dX6_hangs_65 : decode cX6_hangs 65 = .ok (.iload 4, 2) := by decide +kernel
theorem dX6_hangs_67 : decode cX6_hangs 67 = .ok (.iconst 2, 1) := by decide +kernel
theorem dX6_hangs_68 : decode cX6_hangs 68 = .ok (.invokestatic 43, 3) := by decide +kernel
theorem dX6_hangs_71 : decode cX6_hangs 71 = .ok (.iload_n 3, 1) := by decide +kernel
theorem dX6_hangs_72 : decode cX6_hangs 72 = .ok (.iastore, 1) := by decide +kernel
theorem dX6_hangs_73 : decode cX6_hangs 73 = .ok (.aload_n 0, 1) := by decide +kernel
theorem dX6_hangs_74 : decode cX6_hangs 74 = .ok (.getfield 7, 3) := by decide +kernel
theorem dX6_hangs_77 : decode cX6_hangs 77 = .ok (.iload 4, 2) := by decide +kernel
theorem dX6_hangs_79 : decode cX6_hangs 79 = .ok (.bipush 6, 2) := by decide +kernel
theorem dX6_hangs_81 : decode cX6_hangs 81 = .ok (.invokestatic 43, 3) := by decide +kernel
theorem dX6_hangs_84 : decode cX6_hangs 84 = .ok (.iconst 1, 1) := by decide +kernel
theorem dX6_hangs_85 : decode cX6_hangs 85 = .ok (.iastore, 1) := by decide +kernel
theorem dX6_hangs_86 : decode cX6_hangs 86 = .ok (.aload_n 0, 1) := by decide +kernel
theorem dX6_hangs_87 : decode cX6_hangs 87 = .ok (.getfield 7, 3) := by decide +kernel
theorem dX6_hangs_90 : decode cX6_hangs 90 = .ok (.iconst 5, 1) := by decide +kernel
theorem dX6_hangs_91 : decode cX6_hangs 91 = .ok (.dup2, 1) := by decide +kernel
theorem dX6_hangs_92 : decode cX6_hangs 92 = .ok (.iaload, 1) := by decide +kernel
theorem dX6_hangs_93 : decode cX6_hangs 93 = .ok (.iconst 1, 1) := by decide +kernel
theorem dX6_hangs_94 : decode cX6_hangs 94 = .ok (.iadd, 1) := by decide +kernel
theorem dX6_hangs_95 : decode cX6_hangs 95 = .ok (.iastore, 1) := by decide +kernel
theorem dX6_hangs_96 : decode cX6_hangs 96 = .ok (.iload 4, 2) := by decide +kernel
theorem dX6_hangs_98 : decode cX6_hangs 98 = .ok (.ireturn, 1) := by decide +kernel
set_option maxRecDepth 20000 in
theorem ggX6_ladderFault_X6_in : GoodIn wsX6_ladderFault wsX6_in := goodIn_r _ [5] (by decide +kernel) (by decide +kernel)
set_option maxRecDepth 20000 in
theorem gX6_ladderFault_X6_in : GoodIn wsX6_ladderFault (va_wsS RX6 35 yX6_in wsX6_in) := goodIn_app (goodIn_of _ (by decide +kernel)) ggX6_ladderFault_X6_in
theorem dX6_ladderFault_0 : decode cX6_ladderFault 0 = .ok (.iload_n 1, 1) := by decide +kernel
theorem dX6_ladderFault_1 : decode cX6_ladderFault 1 = .ok (.iconst 1, 1) := by decide +kernel
theorem dX6_ladderFault_2 : decode cX6_ladderFault 2 = .ok (.bipush 30, 2) := by decide +kernel
theorem dX6_ladderFault_4 : decode cX6_ladderFault 4 = .ok (.invokestatic 35, 3) := by decide +kernel
theorem dX6_ladderFault_7 : decode cX6_ladderFault 7 = .ok (.ifCond .ne 8, 3) := by decide +kernel
theorem dX6_ladderFault_10 : decode cX6_ladderFault 10 = .ok (.bipush (-2), 2) := by decide +kernel
theorem dX6_ladderFault_12 : decode cX6_ladderFault 12 = .ok (.goto 20, 3) := by decide +kernel
theorem dX6_ladderFault_15 : decode cX6_ladderFault 15 = .ok (.aload_n 0, 1) := by decide +kernel
theorem dX6_ladderFault_16 : decode cX6_ladderFault 16 = .ok (.getfield 7, 3) := by decide +kernel
theorem dX6_ladderFault_19 : decode cX6_ladderFault 19 = .ok (.bipush 6, 2) := by decide +kernel
theorem dX6_ladderFault_21 : decode cX6_ladderFault 21 = .ok (.iaload, 1) := by decide +kernel
theorem dX6_ladderFault_22 : decode cX6_ladderFault 22 = .ok (.iconst 4, 1) := by decide +kernel
theorem dX6_ladderFault_23 : decode cX6_ladderFault 23 = .ok (.if_icmp .ne 8, 3) := by decide +kernel
theorem dX6_ladderFault_26 : decode cX6_ladderFault 26 = .ok (.bipush (-4), 2) := by decide +kernel
theorem dX6_ladderFault_28 : decode cX6_ladderFault 28 = .ok (.goto 4, 3) := by decide +kernel
theorem dX6_ladderFault_31 : decode cX6_ladderFault 31 = .ok (.iconst 0, 1) := by decide +kernel
theorem dX6_ladderFault_32 : decode cX6_ladderFault 32 = .ok (.ireturn, 1) := by decide +kernel
theorem dX6_buys_0 : decode cX6_buys 0 = .ok (.aload_n 0, 1) := by decide +kernel
theorem dX6_buys_1 : decode cX6_buys 1 = .ok (.getfield 7, 3) := by decide +kernel
theorem dX6_buys_4 : decode cX6_buys 4 = .ok (.bipush 8, 2) := by decide +kernel
theorem dX6_buys_6 : decode cX6_buys 6 = .ok (.aload_n 0, 1) := by decide +kernel
theorem dX6_buys_7 : decode cX6_buys 7 = .ok (.getfield 7, 3) := by decide +kernel
theorem dX6_buys_10 : decode cX6_buys 10 = .ok (.bipush 6, 2) := by decide +kernel
theorem dX6_buys_12 : decode cX6_buys 12 = .ok (.iaload, 1) := by decide +kernel
theorem dX6_buys_13 : decode cX6_buys 13 = .ok (.iadd, 1) := by decide +kernel
theorem dX6_buys_14 : decode cX6_buys 14 = .ok (.iload_n 1, 1) := by decide +kernel
theorem dX6_buys_15 : decode cX6_buys 15 = .ok (.iastore, 1) := by decide +kernel
theorem dX6_buys_16 : decode cX6_buys 16 = .ok (.aload_n 0, 1) := by decide +kernel
theorem dX6_buys_17 : decode cX6_buys 17 = .ok (.getfield 7, 3) := by decide +kernel
theorem dX6_buys_20 : decode cX6_buys 20 = .ok (.bipush 6, 2) := by decide +kernel
theorem dX6_buys_22 : decode cX6_buys 22 = .ok (.dup2, 1) := by decide +kernel
theorem dX6_buys_23 : decode cX6_buys 23 = .ok (.iaload, 1) := by decide +kernel
theorem dX6_buys_24 : decode cX6_buys 24 = .ok (.iconst 1, 1) := by decide +kernel
theorem dX6_buys_25 : decode cX6_buys 25 = .ok (.iadd, 1) := by decide +kernel
theorem dX6_buys_26 : decode cX6_buys 26 = .ok (.iastore, 1) := by decide +kernel
theorem dX6_buys_27 : decode cX6_buys 27 = .ok (.aload_n 0, 1) := by decide +kernel
theorem dX6_buys_28 : decode cX6_buys 28 = .ok (.getfield 7, 3) := by decide +kernel
theorem dX6_buys_31 : decode cX6_buys 31 = .ok (.bipush 6, 2) := by decide +kernel
theorem dX6_buys_33 : decode cX6_buys 33 = .ok (.iaload, 1) := by decide +kernel
theorem dX6_buys_34 : decode cX6_buys 34 = .ok (.iconst 1, 1) := by decide +kernel
theorem dX6_buys_35 : decode cX6_buys 35 = .ok (.isub, 1) := by decide +kernel
theorem dX6_buys_36 : decode cX6_buys 36 = .ok (.ireturn, 1) := by decide +kernel
set_option maxRecDepth 20000 in
theorem ggX6_passFault_X6_in : GoodIn wsX6_passFault wsX6_in := goodIn_r _ [5] (by decide +kernel) (by decide +kernel)
set_option maxRecDepth 20000 in
theorem gX6_passFault_X6_in : GoodIn wsX6_passFault (va_wsS RX6 35 yX6_in wsX6_in) := goodIn_app (goodIn_of _ (by decide +kernel)) ggX6_passFault_X6_in
theorem dX6_passFault_0 : decode cX6_passFault 0 = .ok (.iload_n 1, 1) := by decide +kernel
theorem dX6_passFault_1 : decode cX6_passFault 1 = .ok (.iconst 1, 1) := by decide +kernel
theorem dX6_passFault_2 : decode cX6_passFault 2 = .ok (.bipush 99, 2) := by decide +kernel
theorem dX6_passFault_4 : decode cX6_passFault 4 = .ok (.invokestatic 35, 3) := by decide +kernel
theorem dX6_passFault_7 : decode cX6_passFault 7 = .ok (.ifCond .ne 8, 3) := by decide +kernel
theorem dX6_passFault_10 : decode cX6_passFault 10 = .ok (.bipush (-2), 2) := by decide +kernel
theorem dX6_passFault_12 : decode cX6_passFault 12 = .ok (.goto 23, 3) := by decide +kernel
theorem dX6_passFault_15 : decode cX6_passFault 15 = .ok (.aload_n 0, 1) := by decide +kernel
theorem dX6_passFault_16 : decode cX6_passFault 16 = .ok (.getfield 7, 3) := by decide +kernel
theorem dX6_passFault_19 : decode cX6_passFault 19 = .ok (.iconst 4, 1) := by decide +kernel
theorem dX6_passFault_20 : decode cX6_passFault 20 = .ok (.iaload, 1) := by decide +kernel
theorem dX6_passFault_21 : decode cX6_passFault 21 = .ok (.iload_n 1, 1) := by decide +kernel
theorem dX6_passFault_22 : decode cX6_passFault 22 = .ok (.iadd, 1) := by decide +kernel
theorem dX6_passFault_23 : decode cX6_passFault 23 = .ok (.sipush 9999, 3) := by decide +kernel
theorem dX6_passFault_26 : decode cX6_passFault 26 = .ok (.if_icmp .le 8, 3) := by decide +kernel
theorem dX6_passFault_29 : decode cX6_passFault 29 = .ok (.bipush (-5), 2) := by decide +kernel
theorem dX6_passFault_31 : decode cX6_passFault 31 = .ok (.goto 4, 3) := by decide +kernel
theorem dX6_passFault_34 : decode cX6_passFault 34 = .ok (.iconst 0, 1) := by decide +kernel
theorem dX6_passFault_35 : decode cX6_passFault 35 = .ok (.ireturn, 1) := by decide +kernel
set_option maxRecDepth 20000 in
theorem ggX6_still_X6_at : GoodIn wsX6_still wsX6_at := goodIn_r _ [5] (by decide +kernel) (by decide +kernel)
set_option maxRecDepth 20000 in
theorem gX6_still_X6_at : GoodIn wsX6_still (va_wsS RX6 43 yX6_at wsX6_at) := goodIn_app (goodIn_of _ (by decide +kernel)) ggX6_still_X6_at
theorem dX6_still_0 : decode cX6_still 0 = .ok (.iconst 0, 1) := by decide +kernel
theorem dX6_still_1 : decode cX6_still 1 = .ok (.istore_n 1, 1) := by decide +kernel
theorem dX6_still_2 : decode cX6_still 2 = .ok (.iconst 0, 1) := by decide +kernel
theorem dX6_still_3 : decode cX6_still 3 = .ok (.istore_n 2, 1) := by decide +kernel
theorem dX6_still_4 : decode cX6_still 4 = .ok (.iload_n 2, 1) := by decide +kernel
theorem dX6_still_5 : decode cX6_still 5 = .ok (.aload_n 0, 1) := by decide +kernel
theorem dX6_still_6 : decode cX6_still 6 = .ok (.getfield 7, 3) := by decide +kernel
theorem dX6_still_9 : decode cX6_still 9 = .ok (.iconst 5, 1) := by decide +kernel
theorem dX6_still_10 : decode cX6_still 10 = .ok (.iaload, 1) := by decide +kernel
theorem dX6_still_11 : decode cX6_still 11 = .ok (.if_icmp .ge 34, 3) := by decide +kernel
theorem dX6_still_14 : decode cX6_still 14 = .ok (.iload_n 1, 1) := by decide +kernel
theorem dX6_still_15 : decode cX6_still 15 = .ok (.aload_n 0, 1) := by decide +kernel
theorem dX6_still_16 : decode cX6_still 16 = .ok (.getfield 7, 3) := by decide +kernel
theorem dX6_still_19 : decode cX6_still 19 = .ok (.iload_n 2, 1) := by decide +kernel
theorem dX6_still_20 : decode cX6_still 20 = .ok (.bipush 6, 2) := by decide +kernel
theorem dX6_still_22 : decode cX6_still 22 = .ok (.invokestatic 43, 3) := by decide +kernel
theorem dX6_still_25 : decode cX6_still 25 = .ok (.iaload, 1) := by decide +kernel
theorem dX6_still_26 : decode cX6_still 26 = .ok (.iconst 1, 1) := by decide +kernel
theorem dX6_still_27 : decode cX6_still 27 = .ok (.if_icmp .ne 7, 3) := by decide +kernel
theorem dX6_still_30 : decode cX6_still 30 = .ok (.iconst 0, 1) := by decide +kernel
theorem dX6_still_31 : decode cX6_still 31 = .ok (.goto 6, 3) := by decide +kernel
theorem dX6_still_34 : decode cX6_still 34 = .ok (.iconst 1, 1) := by decide +kernel
theorem dX6_still_35 : decode cX6_still 35 = .ok (.iload_n 2, 1) := by decide +kernel
theorem dX6_still_36 : decode cX6_still 36 = .ok (.ishl, 1) := by decide +kernel
theorem dX6_still_37 : decode cX6_still 37 = .ok (.ior, 1) := by decide +kernel
theorem dX6_still_38 : decode cX6_still 38 = .ok (.istore_n 1, 1) := by decide +kernel
theorem dX6_still_39 : decode cX6_still 39 = .ok (.iinc 2 1, 3) := by decide +kernel
theorem dX6_still_42 : decode cX6_still 42 = .ok (.goto (-38), 3) := by decide +kernel
theorem dX6_still_45 : decode cX6_still 45 = .ok (.iload_n 1, 1) := by decide +kernel
theorem dX6_still_46 : decode cX6_still 46 = .ok (.ireturn, 1) := by decide +kernel
theorem dX6_many_0 : decode cX6_many 0 = .ok (.iconst 0, 1) := by decide +kernel
theorem dX6_many_1 : decode cX6_many 1 = .ok (.istore_n 1, 1) := by decide +kernel
theorem dX6_many_2 : decode cX6_many 2 = .ok (.iconst 0, 1) := by decide +kernel
theorem dX6_many_3 : decode cX6_many 3 = .ok (.istore_n 2, 1) := by decide +kernel
theorem dX6_many_4 : decode cX6_many 4 = .ok (.iload_n 2, 1) := by decide +kernel
theorem dX6_many_5 : decode cX6_many 5 = .ok (.bipush 16, 2) := by decide +kernel
theorem dX6_many_7 : decode cX6_many 7 = .ok (.if_icmp .ge 17, 3) := by decide +kernel
theorem dX6_many_10 : decode cX6_many 10 = .ok (.iload_n 1, 1) := by decide +kernel
theorem dX6_many_11 : decode cX6_many 11 = .ok (.iload_n 0, 1) := by decide +kernel
theorem dX6_many_12 : decode cX6_many 12 = .ok (.iload_n 2, 1) := by decide +kernel
theorem dX6_many_13 : decode cX6_many 13 = .ok (.ishr, 1) := by decide +kernel
theorem dX6_many_14 : decode cX6_many 14 = .ok (.iconst 1, 1) := by decide +kernel
theorem dX6_many_15 : decode cX6_many 15 = .ok (.iand, 1) := by decide +kernel
theorem dX6_many_16 : decode cX6_many 16 = .ok (.iadd, 1) := by decide +kernel
theorem dX6_many_17 : decode cX6_many 17 = .ok (.istore_n 1, 1) := by decide +kernel
theorem dX6_many_18 : decode cX6_many 18 = .ok (.iinc 2 1, 3) := by decide +kernel
theorem dX6_many_21 : decode cX6_many 21 = .ok (.goto (-17), 3) := by decide +kernel
theorem dX6_many_24 : decode cX6_many 24 = .ok (.iload_n 1, 1) := by decide +kernel
theorem dX6_many_25 : decode cX6_many 25 = .ok (.ireturn, 1) := by decide +kernel
set_option maxRecDepth 20000 in
theorem ggX6_passes_X6_day : GoodIn wsX6_passes wsX6_day := goodIn_r _ [6, 1, 7, 8, 9, 5, 10, 11, 12, 13, 14, 22, 23, 24, 25, 26, 27, 28, 29, 30, 31, 32, 33, 34, 35, 36, 37, 38] (by decide +kernel) (by decide +kernel)
set_option maxRecDepth 20000 in
theorem gX6_passes_X6_day : GoodIn wsX6_passes (wsV RX6 76 RX6 yX6_day wsX6_day) := goodIn_app (goodIn_of _ (by decide +kernel)) ggX6_passes_X6_day
set_option maxRecDepth 20000 in
theorem ggX6_passes_X6_still : GoodIn wsX6_passes wsX6_still := goodIn_r _ [18, 1, 8, 9, 5, 10, 22, 23, 24, 25, 26, 27, 28, 29, 30, 31, 32, 33, 34, 35, 36, 37, 38] (by decide +kernel) (by decide +kernel)
set_option maxRecDepth 20000 in
theorem gX6_passes_X6_still : GoodIn wsX6_passes (wsV RX6 79 RX6 yX6_still wsX6_still) := goodIn_app (goodIn_of _ (by decide +kernel)) ggX6_passes_X6_still
set_option maxRecDepth 20000 in
theorem ggX6_passes_X6_many : GoodIn wsX6_passes wsX6_many := goodIn_r _ [21] (by decide +kernel) (by decide +kernel)
set_option maxRecDepth 20000 in
theorem gX6_passes_X6_many : GoodIn wsX6_passes (va_wsS RX6 82 yX6_many wsX6_many) := goodIn_app (goodIn_of _ (by decide +kernel)) ggX6_passes_X6_many
theorem dX6_passes_0 : decode cX6_passes 0 = .ok (.iconst 0, 1) := by decide +kernel
theorem dX6_passes_1 : decode cX6_passes 1 = .ok (.istore_n 2, 1) := by decide +kernel
theorem dX6_passes_2 : decode cX6_passes 2 = .ok (.iload_n 2, 1) := by decide +kernel
theorem dX6_passes_3 : decode cX6_passes 3 = .ok (.iload_n 1, 1) := by decide +kernel
theorem dX6_passes_4 : decode cX6_passes 4 = .ok (.if_icmp .ge 32, 3) := by decide +kernel
theorem dX6_passes_7 : decode cX6_passes 7 = .ok (.iconst 0, 1) := by decide +kernel
theorem dX6_passes_8 : decode cX6_passes 8 = .ok (.istore_n 3, 1) := by decide +kernel
theorem dX6_passes_9 : decode cX6_passes 9 = .ok (.iload_n 3, 1) := by decide +kernel
theorem dX6_passes_10 : decode cX6_passes 10 = .ok (.aload_n 0, 1) := by decide +kernel
theorem dX6_passes_11 : decode cX6_passes 11 = .ok (.getfield 7, 3) := by decide +kernel
theorem dX6_passes_14 : decode cX6_passes 14 = .ok (.iconst 5, 1) := by decide +kernel
theorem dX6_passes_15 : decode cX6_passes 15 = .ok (.iaload, 1) := by decide +kernel
theorem dX6_passes_16 : decode cX6_passes 16 = .ok (.if_icmp .ge 14, 3) := by decide +kernel
theorem dX6_passes_19 : decode cX6_passes 19 = .ok (.aload_n 0, 1) := by decide +kernel
theorem dX6_passes_20 : decode cX6_passes 20 = .ok (.iload_n 3, 1) := by decide +kernel
theorem dX6_passes_21 : decode cX6_passes 21 = .ok (.invokevirtual 76, 3) := by decide +kernel
theorem dX6_passes_24 : decode cX6_passes 24 = .ok (.iinc 3 1, 3) := by decide +kernel
theorem dX6_passes_27 : decode cX6_passes 27 = .ok (.goto (-18), 3) := by decide +kernel
theorem dX6_passes_30 : decode cX6_passes 30 = .ok (.iinc 2 1, 3) := by decide +kernel
theorem dX6_passes_33 : decode cX6_passes 33 = .ok (.goto (-31), 3) := by decide +kernel
theorem dX6_passes_36 : decode cX6_passes 36 = .ok (.aload_n 0, 1) := by decide +kernel
theorem dX6_passes_37 : decode cX6_passes 37 = .ok (.getfield 7, 3) := by decide +kernel
theorem dX6_passes_40 : decode cX6_passes 40 = .ok (.iconst 4, 1) := by decide +kernel
theorem dX6_passes_41 : decode cX6_passes 41 = .ok (.dup2, 1) := by decide +kernel
theorem dX6_passes_42 : decode cX6_passes 42 = .ok (.iaload, 1) := by decide +kernel
theorem dX6_passes_43 : decode cX6_passes 43 = .ok (.iload_n 1, 1) := by decide +kernel
theorem dX6_passes_44 : decode cX6_passes 44 = .ok (.iadd, 1) := by decide +kernel
theorem dX6_passes_45 : decode cX6_passes 45 = .ok (.iastore, 1) := by decide +kernel
theorem dX6_passes_46 : decode cX6_passes 46 = .ok (.aload_n 0, 1) := by decide +kernel
theorem dX6_passes_47 : decode cX6_passes 47 = .ok (.invokevirtual 79, 3) := by decide +kernel
theorem dX6_passes_50 : decode cX6_passes 50 = .ok (.invokestatic 82, 3) := by decide +kernel
theorem dX6_passes_53 : decode cX6_passes 53 = .ok (.ireturn, 1) := by decide +kernel
set_option maxRecDepth 20000 in
theorem ggX6_changes_X6_at : GoodIn wsX6_changes wsX6_at := goodIn_r _ [5] (by decide +kernel) (by decide +kernel)
set_option maxRecDepth 20000 in
theorem gX6_changes_X6_at : GoodIn wsX6_changes (va_wsS RX6 43 yX6_at wsX6_at) := goodIn_app (goodIn_of _ (by decide +kernel)) ggX6_changes_X6_at
set_option maxRecDepth 20000 in
theorem ggX6_changes_X6_still : GoodIn wsX6_changes wsX6_still := goodIn_r _ [9, 1, 2, 3, 4, 5, 13, 14, 15, 16, 17, 18, 19, 20, 21, 22, 23, 24, 25, 26, 27, 28, 29] (by decide +kernel) (by decide +kernel)
set_option maxRecDepth 20000 in
theorem gX6_changes_X6_still : GoodIn wsX6_changes (wsV RX6 79 RX6 yX6_still wsX6_still) := goodIn_app (goodIn_of _ (by decide +kernel)) ggX6_changes_X6_still
set_option maxRecDepth 20000 in
theorem ggX6_changes_X6_many : GoodIn wsX6_changes wsX6_many := goodIn_r _ [12] (by decide +kernel) (by decide +kernel)
set_option maxRecDepth 20000 in
theorem gX6_changes_X6_many : GoodIn wsX6_changes (va_wsS RX6 82 yX6_many wsX6_many) := goodIn_app (goodIn_of _ (by decide +kernel)) ggX6_changes_X6_many
theorem dX6_changes_0 : decode cX6_changes 0 = .ok (.iconst 0, 1) := by decide +kernel
theorem dX6_changes_1 : decode cX6_changes 1 = .ok (.istore_n 2, 1) := by decide +kernel
theorem dX6_changes_2 : decode cX6_changes 2 = .ok (.iload_n 2, 1) := by decide +kernel
theorem dX6_changes_3 : decode cX6_changes 3 = .ok (.aload_n 0, 1) := by decide +kernel
theorem dX6_changes_4 : decode cX6_changes 4 = .ok (.getfield 7, 3) := by decide +kernel
theorem dX6_changes_7 : decode cX6_changes 7 = .ok (.iconst 5, 1) := by decide +kernel
theorem dX6_changes_8 : decode cX6_changes 8 = .ok (.iaload, 1) := by decide +kernel
theorem dX6_changes_9 : decode cX6_changes 9 = .ok (.if_icmp .ge 54, 3) := by decide +kernel
theorem dX6_changes_12 : decode cX6_changes 12 = .ok (.aload_n 0, 1) := by decide +kernel
theorem dX6_changes_13 : decode cX6_changes 13 = .ok (.getfield 7, 3) := by decide +kernel
theorem dX6_changes_16 : decode cX6_changes 16 = .ok (.iload_n 2, 1) := by decide +kernel
theorem dX6_changes_17 : decode cX6_changes 17 = .ok (.iconst 4, 1) := by decide +kernel
theorem dX6_changes_18 : decode cX6_changes 18 = .ok (.invokestatic 43, 3) := by decide +kernel
theorem dX6_changes_21 : decode cX6_changes 21 = .ok (.dup2, 1) := by decide +kernel
theorem dX6_changes_22 : decode cX6_changes 22 = .ok (.iaload, 1) := by decide +kernel
theorem dX6_changes_23 : decode cX6_changes 23 = .ok (.aload_n 0, 1) := by decide +kernel
theorem dX6_changes_24 : decode cX6_changes 24 = .ok (.getfield 7, 3) := by decide +kernel
theorem dX6_changes_27 : decode cX6_changes 27 = .ok (.iload_n 2, 1) := by decide +kernel
theorem dX6_changes_28 : decode cX6_changes 28 = .ok (.bipush 6, 2) := by decide +kernel
theorem dX6_changes_30 : decode cX6_changes 30 = .ok (.invokestatic 43, 3) := by decide +kernel
theorem dX6_changes_33 : decode cX6_changes 33 = .ok (.iaload, 1) := by decide +kernel
theorem dX6_changes_34 : decode cX6_changes 34 = .ok (.ifCond .ne 7, 3) := by decide +kernel
theorem dX6_changes_37 : decode cX6_changes 37 = .ok (.iconst 0, 1) := by decide +kernel
theorem dX6_changes_38 : decode cX6_changes 38 = .ok (.goto 17, 3) := by decide +kernel
theorem dX6_changes_41 : decode cX6_changes 41 = .ok (.iload_n 1, 1) := by decide +kernel
theorem dX6_changes_42 : decode cX6_changes 42 = .ok (.iconst 1, 1) := by decide +kernel
theorem dX6_changes_43 : decode cX6_changes 43 = .ok (.if_icmp .ne 9, 3) := by decide +kernel
theorem dX6_changes_46 : decode cX6_changes 46 = .ok (.sipush (-3600), 3) := by decide +kernel
theorem dX6_changes_49 : decode cX6_changes 49 = .ok (.goto 6, 3) := by decide +kernel
theorem dX6_changes_52 : decode cX6_changes 52 = .ok (.sipush 3600, 3) := by decide +kernel
theorem dX6_changes_55 : decode cX6_changes 55 = .ok (.iadd, 1) := by decide +kernel
theorem dX6_changes_56 : decode cX6_changes 56 = .ok (.iastore, 1) := by decide +kernel
theorem dX6_changes_57 : decode cX6_changes 57 = .ok (.iinc 2 1, 3) := by decide +kernel
theorem dX6_changes_60 : decode cX6_changes 60 = .ok (.goto (-58), 3) := by decide +kernel
theorem dX6_changes_63 : decode cX6_changes 63 = .ok (.aload_n 0, 1) := by decide +kernel
theorem dX6_changes_64 : decode cX6_changes 64 = .ok (.getfield 7, 3) := by decide +kernel
theorem dX6_changes_67 : decode cX6_changes 67 = .ok (.iconst 5, 1) := by decide +kernel
theorem dX6_changes_68 : decode cX6_changes 68 = .ok (.iaload, 1) := by decide +kernel
theorem dX6_changes_69 : decode cX6_changes 69 = .ok (.aload_n 0, 1) := by decide +kernel
theorem dX6_changes_70 : decode cX6_changes 70 = .ok (.invokevirtual 79, 3) := by decide +kernel
theorem dX6_changes_73 : decode cX6_changes 73 = .ok (.invokestatic 82, 3) := by decide +kernel
theorem dX6_changes_76 : decode cX6_changes 76 = .ok (.isub, 1) := by decide +kernel
theorem dX6_changes_77 : decode cX6_changes 77 = .ok (.ireturn, 1) := by decide +kernel
set_option maxRecDepth 20000 in
theorem ggX6_set_X6_in : GoodIn wsX6_set wsX6_in := goodIn_r _ [5] (by decide +kernel) (by decide +kernel)
set_option maxRecDepth 20000 in
theorem gX6_set_X6_in : GoodIn wsX6_set (va_wsS RX6 35 yX6_in wsX6_in) := goodIn_app (goodIn_of _ (by decide +kernel)) ggX6_set_X6_in
set_option maxRecDepth 20000 in
theorem ggX6_set_X6_know : GoodIn wsX6_set wsX6_know := goodIn_r _ [9, 10, 11, 1, 12, 13, 14, 15, 16, 17, 18, 19, 20, 21, 22, 23, 24, 25, 26, 27, 28] (by decide +kernel) (by decide +kernel)
set_option maxRecDepth 20000 in
theorem gX6_set_X6_know : GoodIn wsX6_set (wsV RX6 85 RX6 yX6_know wsX6_know) := goodIn_app (goodIn_of _ (by decide +kernel)) ggX6_set_X6_know
theorem dX6_set_0 : decode cX6_set 0 = .ok (.iload_n 1, 1) := by decide +kernel
theorem dX6_set_1 : decode cX6_set 1 = .ok (.ifCond .ne 9, 3) := by decide +kernel
theorem dX6_set_4 : decode cX6_set 4 = .ok (.sipush 999, 3) := by decide +kernel
theorem dX6_set_7 : decode cX6_set 7 = .ok (.goto 5, 3) := by decide +kernel
theorem dX6_set_10 : decode cX6_set 10 = .ok (.bipush 30, 2) := by decide +kernel
theorem dX6_set_12 : decode cX6_set 12 = .ok (.istore_n 3, 1) := by decide +kernel
theorem dX6_set_13 : decode cX6_set 13 = .ok (.iload_n 1, 1) := by decide +kernel
theorem dX6_set_14 : decode cX6_set 14 = .ok (.iconst 0, 1) := by decide +kernel
theorem dX6_set_15 : decode cX6_set 15 = .ok (.iconst 3, 1) := by decide +kernel
theorem dX6_set_16 : decode cX6_set 16 = .ok (.invokestatic 35, 3) := by decide +kernel
theorem dX6_set_19 : decode cX6_set 19 = .ok (.ifCond .eq 12, 3) := by decide +kernel
theorem dX6_set_22 : decode cX6_set 22 = .ok (.iload_n 2, 1) := by decide +kernel
theorem dX6_set_23 : decode cX6_set 23 = .ok (.iconst 1, 1) := by decide +kernel
theorem dX6_set_24 : decode cX6_set 24 = .ok (.iload_n 3, 1) := by decide +kernel
theorem dX6_set_25 : decode cX6_set 25 = .ok (.invokestatic 35, 3) := by decide +kernel
theorem dX6_set_28 : decode cX6_set 28 = .ok (.ifCond .ne 6, 3) := by decide +kernel
theorem dX6_set_31 : decode cX6_set 31 = .ok (.bipush (-2), 2) := by decide +kernel
theorem dX6_set_33 : decode cX6_set 33 = .ok (.ireturn, 1) := by decide +kernel
theorem dX6_set_34 : decode cX6_set 34 = .ok (.aload_n 0, 1) := by decide +kernel
theorem dX6_set_35 : decode cX6_set 35 = .ok (.invokevirtual 85, 3) := by decide +kernel
theorem dX6_set_38 : decode cX6_set 38 = .ok (.aload_n 0, 1) := by decide +kernel
theorem dX6_set_39 : decode cX6_set 39 = .ok (.getfield 7, 3) := by decide +kernel
theorem dX6_set_42 : decode cX6_set 42 = .ok (.iconst 0, 1) := by decide +kernel
theorem dX6_set_43 : decode cX6_set 43 = .ok (.iload_n 1, 1) := by decide +kernel
theorem dX6_set_44 : decode cX6_set 44 = .ok (.iadd, 1) := by decide +kernel
theorem dX6_set_45 : decode cX6_set 45 = .ok (.iaload, 1) := by decide +kernel
theorem dX6_set_46 : decode cX6_set 46 = .ok (.istore 4, 2) := by decide +kernel
theorem dX6_set_48 : decode cX6_set 48 = .ok (.aload_n 0, 1) := by decide +kernel
theorem dX6_set_49 : decode cX6_set 49 = .ok (.getfield 7, 3) := by decide +kernel
theorem dX6_set_52 : decode cX6_set 52 = .ok (.iconst 0, 1) := by decide +kernel
theorem dX6_set_53 : decode cX6_set 53 = .ok (.iload_n 1, 1) := by decide +kernel
theorem dX6_set_54 : decode cX6_set 54 = .ok (.iadd, 1) := by decide +kernel
theorem dX6_set_55 : decode cX6_set 55 = .ok (.iload_n 2, 1) := by decide +kernel
theorem dX6_set_56 : decode cX6_set 56 = .ok (.iastore, 1) := by decide +kernel
theorem dX6_set_57 : decode cX6_set 57 = .ok (.iload 4, 2) := by decide +kernel
theorem dX6_set_59 : decode cX6_set 59 = .ok (.ireturn, 1) := by decide +kernel
set_option maxRecDepth 20000 in
theorem ggX6_hang_X6_hangFault : GoodIn wsX6_hang wsX6_hangFault := goodIn_r _ [5, 6, 7, 8, 4, 9, 23, 24, 25, 26, 27, 28, 29, 30, 31, 32, 33, 34, 35, 36, 37, 38, 39] (by decide +kernel) (by decide +kernel)
set_option maxRecDepth 20000 in
theorem gX6_hang_X6_hangFault : GoodIn wsX6_hang (wsV RX6 88 RX6 yX6_hangFault wsX6_hangFault) := goodIn_app (goodIn_of _ (by decide +kernel)) ggX6_hang_X6_hangFault
set_option maxRecDepth 20000 in
theorem ggX6_hang_X6_know : GoodIn wsX6_hang wsX6_know := goodIn_r _ [13, 14, 15, 6, 23, 24, 25, 26, 27, 28, 29, 30, 31, 32, 33, 34, 35, 36, 37, 38, 39] (by decide +kernel) (by decide +kernel)
set_option maxRecDepth 20000 in
theorem gX6_hang_X6_know : GoodIn wsX6_hang (wsV RX6 85 RX6 yX6_know wsX6_know) := goodIn_app (goodIn_of _ (by decide +kernel)) ggX6_hang_X6_know
set_option maxRecDepth 20000 in
theorem ggX6_hang_X6_hangs : GoodIn wsX6_hang wsX6_hangs := goodIn_r _ [19, 6, 20, 21, 4, 22, 23, 24, 25, 26, 27, 28, 29, 30, 31, 32, 33, 34, 35, 36, 37, 38, 39] (by decide +kernel) (by decide +kernel)
set_option maxRecDepth 20000 in
theorem gX6_hang_X6_hangs : GoodIn wsX6_hang (wsV RX6 92 RX6 yX6_hangs wsX6_hangs) := goodIn_app (goodIn_of _ (by decide +kernel)) ggX6_hang_X6_hangs
theorem dX6_hang_0 : decode cX6_hang 0 = .ok (.aload_n 0, 1) := by decide +kernel
theorem dX6_hang_1 : decode cX6_hang 1 = .ok (.iload_n 1, 1) := by decide +kernel
theorem dX6_hang_2 : decode cX6_hang 2 = .ok (.iload_n 2, 1) := by decide +kernel
theorem dX6_hang_3 : decode cX6_hang 3 = .ok (.iload_n 3, 1) := by decide +kernel
theorem dX6_hang_4 : decode cX6_hang 4 = .ok (.invokevirtual 88, 3) := by decide +kernel
theorem dX6_hang_7 : decode cX6_hang 7 = .ok (.istore 4, 2) := by decide +kernel
theorem dX6_hang_9 : decode cX6_hang 9 = .ok (.iload 4, 2) := by decide +kernel
theorem dX6_hang_11 : decode cX6_hang 11 = .ok (.ifCond .ge 6, 3) := by decide +kernel
theorem dX6_hang_14 : decode cX6_hang 14 = .ok (.iload 4, 2) := by decide +kernel
theorem dX6_hang_16 : decode cX6_hang 16 = .ok (.ireturn, 1) := by decide +kernel
theorem dX6_hang_17 : decode cX6_hang 17 = .ok (.aload_n 0, 1) := by decide +kernel
theorem dX6_hang_18 : decode cX6_hang 18 = .ok (.invokevirtual 85, 3) := by decide +kernel
theorem dX6_hang_21 : decode cX6_hang 21 = .ok (.aload_n 0, 1) := by decide +kernel
theorem dX6_hang_22 : decode cX6_hang 22 = .ok (.iload_n 1, 1) := by decide +kernel
theorem dX6_hang_23 : decode cX6_hang 23 = .ok (.iload_n 2, 1) := by decide +kernel
theorem dX6_hang_24 : decode cX6_hang 24 = .ok (.iload_n 3, 1) := by decide +kernel
theorem dX6_hang_25 : decode cX6_hang 25 = .ok (.invokevirtual 92, 3) := by decide +kernel
theorem dX6_hang_28 : decode cX6_hang 28 = .ok (.ireturn, 1) := by decide +kernel
set_option maxRecDepth 20000 in
theorem ggX6_ladder_X6_ladderFault : GoodIn wsX6_ladder wsX6_ladderFault := goodIn_r _ [5, 6, 7, 8, 4, 9, 20, 21, 22, 23, 24, 25, 26, 27, 28, 29, 30, 31, 32, 33, 34, 35, 36] (by decide +kernel) (by decide +kernel)
set_option maxRecDepth 20000 in
theorem gX6_ladder_X6_ladderFault : GoodIn wsX6_ladder (wsV RX6 95 RX6 yX6_ladderFault wsX6_ladderFault) := goodIn_app (goodIn_of _ (by decide +kernel)) ggX6_ladder_X6_ladderFault
set_option maxRecDepth 20000 in
theorem ggX6_ladder_X6_know : GoodIn wsX6_ladder wsX6_know := goodIn_r _ [13, 14, 15, 6, 20, 21, 22, 23, 24, 25, 26, 27, 28, 29, 30, 31, 32, 33, 34, 35, 36] (by decide +kernel) (by decide +kernel)
set_option maxRecDepth 20000 in
theorem gX6_ladder_X6_know : GoodIn wsX6_ladder (wsV RX6 85 RX6 yX6_know wsX6_know) := goodIn_app (goodIn_of _ (by decide +kernel)) ggX6_ladder_X6_know
set_option maxRecDepth 20000 in
theorem ggX6_ladder_X6_buys : GoodIn wsX6_ladder wsX6_buys := goodIn_r _ [19, 6, 20, 21, 22, 23, 24, 25, 26, 27, 28, 29, 30, 31, 32, 33, 34, 35, 36] (by decide +kernel) (by decide +kernel)
set_option maxRecDepth 20000 in
theorem gX6_ladder_X6_buys : GoodIn wsX6_ladder (wsV RX6 98 RX6 yX6_buys wsX6_buys) := goodIn_app (goodIn_of _ (by decide +kernel)) ggX6_ladder_X6_buys
theorem dX6_ladder_0 : decode cX6_ladder 0 = .ok (.aload_n 0, 1) := by decide +kernel
theorem dX6_ladder_1 : decode cX6_ladder 1 = .ok (.iload_n 1, 1) := by decide +kernel
theorem dX6_ladder_2 : decode cX6_ladder 2 = .ok (.invokevirtual 95, 3) := by decide +kernel
theorem dX6_ladder_5 : decode cX6_ladder 5 = .ok (.istore_n 2, 1) := by decide +kernel
theorem dX6_ladder_6 : decode cX6_ladder 6 = .ok (.iload_n 2, 1) := by decide +kernel
theorem dX6_ladder_7 : decode cX6_ladder 7 = .ok (.ifCond .ge 5, 3) := by decide +kernel
theorem dX6_ladder_10 : decode cX6_ladder 10 = .ok (.iload_n 2, 1) := by decide +kernel
theorem dX6_ladder_11 : decode cX6_ladder 11 = .ok (.ireturn, 1) := by decide +kernel
theorem dX6_ladder_12 : decode cX6_ladder 12 = .ok (.aload_n 0, 1) := by decide +kernel
theorem dX6_ladder_13 : decode cX6_ladder 13 = .ok (.invokevirtual 85, 3) := by decide +kernel
theorem dX6_ladder_16 : decode cX6_ladder 16 = .ok (.aload_n 0, 1) := by decide +kernel
theorem dX6_ladder_17 : decode cX6_ladder 17 = .ok (.iload_n 1, 1) := by decide +kernel
theorem dX6_ladder_18 : decode cX6_ladder 18 = .ok (.invokevirtual 98, 3) := by decide +kernel
theorem dX6_ladder_21 : decode cX6_ladder 21 = .ok (.ireturn, 1) := by decide +kernel
set_option maxRecDepth 20000 in
theorem ggX6_screw_X6_isClock : GoodIn wsX6_screw wsX6_isClock := goodIn_r _ [6, 1, 7, 8, 5, 9, 19, 20, 21, 22, 23, 24, 25, 26, 27, 28, 29, 30, 31, 32, 33, 34, 35] (by decide +kernel) (by decide +kernel)
set_option maxRecDepth 20000 in
theorem gX6_screw_X6_isClock : GoodIn wsX6_screw (wsV RX6 101 RX6 yX6_isClock wsX6_isClock) := goodIn_app (goodIn_of _ (by decide +kernel)) ggX6_screw_X6_isClock
set_option maxRecDepth 20000 in
theorem ggX6_screw_X6_in : GoodIn wsX6_screw wsX6_in := goodIn_r _ [9] (by decide +kernel) (by decide +kernel)
set_option maxRecDepth 20000 in
theorem gX6_screw_X6_in : GoodIn wsX6_screw (va_wsS RX6 35 yX6_in wsX6_in) := goodIn_app (goodIn_of _ (by decide +kernel)) ggX6_screw_X6_in
set_option maxRecDepth 20000 in
theorem ggX6_screw_X6_at : GoodIn wsX6_screw wsX6_at := goodIn_r _ [12] (by decide +kernel) (by decide +kernel)
set_option maxRecDepth 20000 in
theorem gX6_screw_X6_at : GoodIn wsX6_screw (va_wsS RX6 43 yX6_at wsX6_at) := goodIn_app (goodIn_of _ (by decide +kernel)) ggX6_screw_X6_at
set_option maxRecDepth 20000 in
theorem ggX6_screw_X6_know : GoodIn wsX6_screw wsX6_know := goodIn_r _ [16, 17, 18, 1, 19, 20, 21, 22, 23, 24, 25, 26, 27, 28, 29, 30, 31, 32, 33, 34, 35] (by decide +kernel) (by decide +kernel)
set_option maxRecDepth 20000 in
theorem gX6_screw_X6_know : GoodIn wsX6_screw (wsV RX6 85 RX6 yX6_know wsX6_know) := goodIn_app (goodIn_of _ (by decide +kernel)) ggX6_screw_X6_know
theorem dX6_screw_0 : decode cX6_screw 0 = .ok (.aload_n 0, 1) := by decide +kernel
theorem dX6_screw_1 : decode cX6_screw 1 = .ok (.iload_n 1, 1) := by decide +kernel
theorem dX6_screw_2 : decode cX6_screw 2 = .ok (.invokevirtual 101, 3) := by decide +kernel
theorem dX6_screw_5 : decode cX6_screw 5 = .ok (.ifCond .ne 5, 3) := by decide +kernel
theorem dX6_screw_8 : decode cX6_screw 8 = .ok (.iconst (-1), 1) := by decide +kernel
theorem dX6_screw_9 : decode cX6_screw 9 = .ok (.ireturn, 1) := by decide +kernel
theorem dX6_screw_10 : decode cX6_screw 10 = .ok (.iload_n 2, 1) := by decide +kernel
theorem dX6_screw_11 : decode cX6_screw 11 = .ok (.bipush (-20), 2) := by decide +kernel
theorem dX6_screw_13 : decode cX6_screw 13 = .ok (.bipush 20, 2) := by decide +kernel
theorem dX6_screw_15 : decode cX6_screw 15 = .ok (.invokestatic 35, 3) := by decide +kernel
theorem dX6_screw_18 : decode cX6_screw 18 = .ok (.ifCond .ne 6, 3) := by decide +kernel
theorem dX6_screw_21 : decode cX6_screw 21 = .ok (.bipush (-2), 2) := by decide +kernel
theorem dX6_screw_23 : decode cX6_screw 23 = .ok (.ireturn, 1) := by decide +kernel
theorem dX6_screw_24 : decode cX6_screw 24 = .ok (.aload_n 0, 1) := by decide +kernel
theorem dX6_screw_25 : decode cX6_screw 25 = .ok (.getfield 7, 3) := by decide +kernel
theorem dX6_screw_28 : decode cX6_screw 28 = .ok (.iload_n 1, 1) := by decide +kernel
theorem dX6_screw_29 : decode cX6_screw 29 = .ok (.iconst 3, 1) := by decide +kernel
theorem dX6_screw_30 : decode cX6_screw 30 = .ok (.invokestatic 43, 3) := by decide +kernel
theorem dX6_screw_33 : decode cX6_screw 33 = .ok (.iaload, 1) := by decide +kernel
theorem dX6_screw_34 : decode cX6_screw 34 = .ok (.iload_n 2, 1) := by decide +kernel
theorem dX6_screw_35 : decode cX6_screw 35 = .ok (.iadd, 1) := by decide +kernel
theorem dX6_screw_36 : decode cX6_screw 36 = .ok (.istore_n 3, 1) := by decide +kernel
theorem dX6_screw_37 : decode cX6_screw 37 = .ok (.iload_n 3, 1) := by decide +kernel
theorem dX6_screw_38 : decode cX6_screw 38 = .ok (.bipush (-20), 2) := by decide +kernel
theorem dX6_screw_40 : decode cX6_screw 40 = .ok (.bipush 20, 2) := by decide +kernel
theorem dX6_screw_42 : decode cX6_screw 42 = .ok (.invokestatic 35, 3) := by decide +kernel
theorem dX6_screw_45 : decode cX6_screw 45 = .ok (.ifCond .ne 6, 3) := by decide +kernel
theorem dX6_screw_48 : decode cX6_screw 48 = .ok (.bipush (-5), 2) := by decide +kernel
theorem dX6_screw_50 : decode cX6_screw 50 = .ok (.ireturn, 1) := by decide +kernel
theorem dX6_screw_51 : decode cX6_screw 51 = .ok (.aload_n 0, 1) := by decide +kernel
theorem dX6_screw_52 : decode cX6_screw 52 = .ok (.invokevirtual 85, 3) := by decide +kernel
theorem dX6_screw_55 : decode cX6_screw 55 = .ok (.aload_n 0, 1) := by decide +kernel
theorem dX6_screw_56 : decode cX6_screw 56 = .ok (.getfield 7, 3) := by decide +kernel
theorem dX6_screw_59 : decode cX6_screw 59 = .ok (.iload_n 1, 1) := by decide +kernel
theorem dX6_screw_60 : decode cX6_screw 60 = .ok (.iconst 3, 1) := by decide +kernel
theorem dX6_screw_61 : decode cX6_screw 61 = .ok (.invokestatic 43, 3) := by decide +kernel
theorem dX6_screw_64 : decode cX6_screw 64 = .ok (.iload_n 3, 1) := by decide +kernel
theorem dX6_screw_65 : decode cX6_screw 65 = .ok (.iastore, 1) := by decide +kernel
theorem dX6_screw_66 : decode cX6_screw 66 = .ok (.iload_n 3, 1) := by decide +kernel
theorem dX6_screw_67 : decode cX6_screw 67 = .ok (.bipush 20, 2) := by decide +kernel
theorem dX6_screw_69 : decode cX6_screw 69 = .ok (.iadd, 1) := by decide +kernel
theorem dX6_screw_70 : decode cX6_screw 70 = .ok (.ireturn, 1) := by decide +kernel
set_option maxRecDepth 20000 in
theorem ggX6_round_X6_layOut : GoodIn wsX6_round wsX6_layOut := goodIn_r _ [5, 6, 7, 8, 52, 53, 54, 55, 56, 57, 58, 59, 60, 61, 62, 63, 64, 65, 66, 67, 68] (by decide +kernel) (by decide +kernel)
set_option maxRecDepth 20000 in
theorem gX6_round_X6_layOut : GoodIn wsX6_round (wsV RX6 104 RX6 yX6_layOut wsX6_layOut) := goodIn_app (goodIn_of _ (by decide +kernel)) ggX6_round_X6_layOut
set_option maxRecDepth 20000 in
theorem ggX6_round_X6_know : GoodIn wsX6_round wsX6_know := goodIn_r _ [12, 13, 14, 7, 52, 53, 54, 55, 56, 57, 58, 59, 60, 61, 62, 63, 64, 65, 66, 67, 68] (by decide +kernel) (by decide +kernel)
set_option maxRecDepth 20000 in
theorem gX6_round_X6_know : GoodIn wsX6_round (wsV RX6 85 RX6 yX6_know wsX6_know) := goodIn_app (goodIn_of _ (by decide +kernel)) ggX6_round_X6_know
set_option maxRecDepth 20000 in
theorem ggX6_round_X6_goes : GoodIn wsX6_round wsX6_goes := goodIn_r _ [18, 6, 8, 7, 19, 20, 21, 4, 22, 23, 24, 25, 26, 27, 28, 29, 30, 31, 32, 33, 34, 35, 36, 37, 38, 39, 40, 41, 42, 43, 44, 45, 46, 47, 48, 49, 50, 51, 52, 53, 54, 55, 56, 57, 58, 59, 60, 61, 62, 63, 64, 65, 66, 67, 68] (by decide +kernel) (by decide +kernel)
set_option maxRecDepth 20000 in
theorem gX6_round_X6_goes : GoodIn wsX6_round (wsV RX6 108 RX6 yX6_goes wsX6_goes) := goodIn_app (goodIn_of _ (by decide +kernel)) ggX6_round_X6_goes
theorem dX6_round_0 : decode cX6_round 0 = .ok (.aload_n 0, 1) := by decide +kernel
theorem dX6_round_1 : decode cX6_round 1 = .ok (.iload_n 1, 1) := by decide +kernel
theorem dX6_round_2 : decode cX6_round 2 = .ok (.iconst 0, 1) := by decide +kernel
theorem dX6_round_3 : decode cX6_round 3 = .ok (.invokevirtual 104, 3) := by decide +kernel
theorem dX6_round_6 : decode cX6_round 6 = .ok (.istore_n 2, 1) := by decide +kernel
theorem dX6_round_7 : decode cX6_round 7 = .ok (.iload_n 2, 1) := by decide +kernel
theorem dX6_round_8 : decode cX6_round 8 = .ok (.ifCond .ge 5, 3) := by decide +kernel
theorem dX6_round_11 : decode cX6_round 11 = .ok (.iload_n 2, 1) := by decide +kernel
theorem dX6_round_12 : decode cX6_round 12 = .ok (.ireturn, 1) := by decide +kernel
theorem dX6_round_13 : decode cX6_round 13 = .ok (.aload_n 0, 1) := by decide +kernel
theorem dX6_round_14 : decode cX6_round 14 = .ok (.invokevirtual 85, 3) := by decide +kernel
theorem dX6_round_17 : decode cX6_round 17 = .ok (.aload_n 0, 1) := by decide +kernel
theorem dX6_round_18 : decode cX6_round 18 = .ok (.invokevirtual 108, 3) := by decide +kernel
theorem dX6_round_21 : decode cX6_round 21 = .ok (.ireturn, 1) := by decide +kernel
set_option maxRecDepth 20000 in
theorem ggX6_pass_X6_passFault : GoodIn wsX6_pass wsX6_passFault := goodIn_r _ [5, 6, 7, 8, 4, 9, 39, 40, 41, 42, 43, 44, 45, 46, 47, 48, 49, 50, 51, 52, 53, 54, 55] (by decide +kernel) (by decide +kernel)
set_option maxRecDepth 20000 in
theorem gX6_pass_X6_passFault : GoodIn wsX6_pass (wsV RX6 111 RX6 yX6_passFault wsX6_passFault) := goodIn_app (goodIn_of _ (by decide +kernel)) ggX6_pass_X6_passFault
set_option maxRecDepth 20000 in
theorem ggX6_pass_X6_know : GoodIn wsX6_pass wsX6_know := goodIn_r _ [13, 14, 15, 6, 39, 40, 41, 42, 43, 44, 45, 46, 47, 48, 49, 50, 51, 52, 53, 54, 55] (by decide +kernel) (by decide +kernel)
set_option maxRecDepth 20000 in
theorem gX6_pass_X6_know : GoodIn wsX6_pass (wsV RX6 85 RX6 yX6_know wsX6_know) := goodIn_app (goodIn_of _ (by decide +kernel)) ggX6_pass_X6_know
set_option maxRecDepth 20000 in
theorem ggX6_pass_X6_passes : GoodIn wsX6_pass wsX6_passes := goodIn_r _ [19, 6, 20, 21, 22, 4, 23, 24, 25, 26, 27, 28, 29, 30, 31, 32, 33, 34, 35, 36, 37, 38, 39, 40, 41, 42, 43, 44, 45, 46, 47, 48, 49, 50, 51, 52, 53, 54, 55] (by decide +kernel) (by decide +kernel)
set_option maxRecDepth 20000 in
theorem gX6_pass_X6_passes : GoodIn wsX6_pass (wsV RX6 114 RX6 yX6_passes wsX6_passes) := goodIn_app (goodIn_of _ (by decide +kernel)) ggX6_pass_X6_passes
theorem dX6_pass_0 : decode cX6_pass 0 = .ok (.aload_n 0, 1) := by decide +kernel
theorem dX6_pass_1 : decode cX6_pass 1 = .ok (.iload_n 1, 1) := by decide +kernel
theorem dX6_pass_2 : decode cX6_pass 2 = .ok (.invokevirtual 111, 3) := by decide +kernel
theorem dX6_pass_5 : decode cX6_pass 5 = .ok (.istore_n 2, 1) := by decide +kernel
theorem dX6_pass_6 : decode cX6_pass 6 = .ok (.iload_n 2, 1) := by decide +kernel
theorem dX6_pass_7 : decode cX6_pass 7 = .ok (.ifCond .ge 5, 3) := by decide +kernel
theorem dX6_pass_10 : decode cX6_pass 10 = .ok (.iload_n 2, 1) := by decide +kernel
theorem dX6_pass_11 : decode cX6_pass 11 = .ok (.ireturn, 1) := by decide +kernel
theorem dX6_pass_12 : decode cX6_pass 12 = .ok (.aload_n 0, 1) := by decide +kernel
theorem dX6_pass_13 : decode cX6_pass 13 = .ok (.invokevirtual 85, 3) := by decide +kernel
theorem dX6_pass_16 : decode cX6_pass 16 = .ok (.aload_n 0, 1) := by decide +kernel
theorem dX6_pass_17 : decode cX6_pass 17 = .ok (.iload_n 1, 1) := by decide +kernel
theorem dX6_pass_18 : decode cX6_pass 18 = .ok (.invokevirtual 114, 3) := by decide +kernel
theorem dX6_pass_21 : decode cX6_pass 21 = .ok (.ireturn, 1) := by decide +kernel
set_option maxRecDepth 20000 in
theorem ggX6_change_X6_in : GoodIn wsX6_change wsX6_in := goodIn_r _ [4] (by decide +kernel) (by decide +kernel)
set_option maxRecDepth 20000 in
theorem gX6_change_X6_in : GoodIn wsX6_change (va_wsS RX6 35 yX6_in wsX6_in) := goodIn_app (goodIn_of _ (by decide +kernel)) ggX6_change_X6_in
set_option maxRecDepth 20000 in
theorem ggX6_change_X6_know : GoodIn wsX6_change wsX6_know := goodIn_r _ [8, 9, 10, 11, 26, 27, 28, 29, 30, 31, 32, 33, 34, 35, 36, 37, 38, 39, 40, 41, 42] (by decide +kernel) (by decide +kernel)
set_option maxRecDepth 20000 in
theorem gX6_change_X6_know : GoodIn wsX6_change (wsV RX6 85 RX6 yX6_know wsX6_know) := goodIn_app (goodIn_of _ (by decide +kernel)) ggX6_change_X6_know
set_option maxRecDepth 20000 in
theorem ggX6_change_X6_changes : GoodIn wsX6_change wsX6_changes := goodIn_r _ [15, 11, 16, 17, 3, 18, 19, 20, 21, 22, 23, 24, 25, 26, 27, 28, 29, 30, 31, 32, 33, 34, 35, 36, 37, 38, 39, 40, 41, 42] (by decide +kernel) (by decide +kernel)
set_option maxRecDepth 20000 in
theorem gX6_change_X6_changes : GoodIn wsX6_change (wsV RX6 117 RX6 yX6_changes wsX6_changes) := goodIn_app (goodIn_of _ (by decide +kernel)) ggX6_change_X6_changes
theorem dX6_change_0 : decode cX6_change 0 = .ok (.iload_n 1, 1) := by decide +kernel
theorem dX6_change_1 : decode cX6_change 1 = .ok (.iconst 0, 1) := by decide +kernel
theorem dX6_change_2 : decode cX6_change 2 = .ok (.iconst 1, 1) := by decide +kernel
theorem dX6_change_3 : decode cX6_change 3 = .ok (.invokestatic 35, 3) := by decide +kernel
theorem dX6_change_6 : decode cX6_change 6 = .ok (.ifCond .ne 6, 3) := by decide +kernel
theorem dX6_change_9 : decode cX6_change 9 = .ok (.bipush (-2), 2) := by decide +kernel
theorem dX6_change_11 : decode cX6_change 11 = .ok (.ireturn, 1) := by decide +kernel
theorem dX6_change_12 : decode cX6_change 12 = .ok (.aload_n 0, 1) := by decide +kernel
theorem dX6_change_13 : decode cX6_change 13 = .ok (.invokevirtual 85, 3) := by decide +kernel
theorem dX6_change_16 : decode cX6_change 16 = .ok (.aload_n 0, 1) := by decide +kernel
theorem dX6_change_17 : decode cX6_change 17 = .ok (.iload_n 1, 1) := by decide +kernel
theorem dX6_change_18 : decode cX6_change 18 = .ok (.invokevirtual 117, 3) := by decide +kernel
theorem dX6_change_21 : decode cX6_change 21 = .ok (.ireturn, 1) := by decide +kernel
set_option maxRecDepth 20000 in
theorem ggX6_of_X6_isClock : GoodIn wsX6_of wsX6_isClock := goodIn_r _ [7, 1, 8, 9, 6, 10, 29, 30, 31, 32, 33, 34, 35, 36, 37, 38, 39, 40, 41, 42, 43, 44, 45] (by decide +kernel) (by decide +kernel)
set_option maxRecDepth 20000 in
theorem gX6_of_X6_isClock : GoodIn wsX6_of (wsV RX6 101 RX6 yX6_isClock wsX6_isClock) := goodIn_app (goodIn_of _ (by decide +kernel)) ggX6_of_X6_isClock
set_option maxRecDepth 20000 in
theorem ggX6_of_X6_at : GoodIn wsX6_of wsX6_at := goodIn_r _ [13] (by decide +kernel) (by decide +kernel)
set_option maxRecDepth 20000 in
theorem gX6_of_X6_at : GoodIn wsX6_of (va_wsS RX6 43 yX6_at wsX6_at) := goodIn_app (goodIn_of _ (by decide +kernel)) ggX6_of_X6_at
set_option maxRecDepth 20000 in
theorem ggX6_of_X6_isOff : GoodIn wsX6_of wsX6_isOff := goodIn_r _ [17, 1, 11, 12, 6, 13, 18, 19, 20, 29, 30, 31, 32, 33, 34, 35, 36, 37, 38, 39, 40, 41, 42, 43, 44, 45] (by decide +kernel) (by decide +kernel)
set_option maxRecDepth 20000 in
theorem gX6_of_X6_isOff : GoodIn wsX6_of (wsV RX6 121 RX6 yX6_isOff wsX6_isOff) := goodIn_app (goodIn_of _ (by decide +kernel)) ggX6_of_X6_isOff
set_option maxRecDepth 20000 in
theorem ggX6_of_X6_ladderOf : GoodIn wsX6_of wsX6_ladderOf := goodIn_r _ [24, 1, 11, 12, 6, 13, 29, 30, 31, 32, 33, 34, 35, 36, 37, 38, 39, 40, 41, 42, 43, 44, 45] (by decide +kernel) (by decide +kernel)
set_option maxRecDepth 20000 in
theorem gX6_of_X6_ladderOf : GoodIn wsX6_of (wsV RX6 51 RX6 yX6_ladderOf wsX6_ladderOf) := goodIn_app (goodIn_of _ (by decide +kernel)) ggX6_of_X6_ladderOf
set_option maxRecDepth 20000 in
theorem ggX6_of_X6_canWind : GoodIn wsX6_of wsX6_canWind := goodIn_r _ [28, 1, 11, 12, 6, 13, 21, 22, 23, 24, 29, 30, 31, 32, 33, 34, 35, 36, 37, 38, 39, 40, 41, 42, 43, 44, 45] (by decide +kernel) (by decide +kernel)
set_option maxRecDepth 20000 in
theorem gX6_of_X6_canWind : GoodIn wsX6_of (wsV RX6 64 RX6 yX6_canWind wsX6_canWind) := goodIn_app (goodIn_of _ (by decide +kernel)) ggX6_of_X6_canWind
end
section
theorem dX6_of_0 : decode cX6_of 0 = .ok (.aload_n 0, 1) := by decide +kernel
theorem dX6_of_1 : decode cX6_of 1 = .ok (.iload_n 1, 1) := by decide +kernel
theorem dX6_of_2 : decode cX6_of 2 = .ok (.invokevirtual 101, 3) := by decide +kernel
theorem dX6_of_5 : decode cX6_of 5 = .ok (.ifCond .ne 5, 3) := by decide +kernel
theorem dX6_of_8 : decode cX6_of 8 = .ok (.iconst (-1), 1) := by decide +kernel
theorem dX6_of_9 : decode cX6_of 9 = .ok (.ireturn, 1) := by decide +kernel
theorem dX6_of_10 : decode cX6_of 10 = .ok (.iload_n 2, 1) := by decide +kernel
theorem dX6_of_11 : decode cX6_of 11 = .ok (.tableswitch 167 0 10 #[57, 57, 68, 82, 96, 110, 110, 121, 135, 141, 155], 57) := by decide +kernel
theorem dX6_of_68 : decode cX6_of 68 = .ok (.aload_n 0, 1) := by decide +kernel
theorem dX6_of_69 : decode cX6_of 69 = .ok (.getfield 7, 3) := by decide +kernel
theorem dX6_of_72 : decode cX6_of 72 = .ok (.iload_n 1, 1) := by decide +kernel
theorem dX6_of_73 : decode cX6_of 73 = .ok (.iload_n 2, 1) := by decide +kernel
theorem dX6_of_74 : decode cX6_of 74 = .ok (.invokestatic 43, 3) := by decide +kernel
theorem dX6_of_77 : decode cX6_of 77 = .ok (.iaload, 1) := by decide +kernel
theorem dX6_of_78 : decode cX6_of 78 = .ok (.ireturn, 1) := by decide +kernel
theorem dX6_of_79 : decode cX6_of 79 = .ok (.aload_n 0, 1) := by decide +kernel
theorem dX6_of_80 : decode cX6_of 80 = .ok (.getfield 7, 3) := by decide +kernel
theorem dX6_of_83 : decode cX6_of 83 = .ok (.iload_n 1, 1) := by decide +kernel
theorem dX6_of_84 : decode cX6_of 84 = .ok (.iconst 2, 1) := by decide +kernel
theorem dX6_of_85 : decode cX6_of 85 = .ok (.invokestatic 43, 3) := by decide +kernel
theorem dX6_of_88 : decode cX6_of 88 = .ok (.iaload, 1) := by decide +kernel
theorem dX6_of_89 : decode cX6_of 89 = .ok (.bipush 100, 2) := by decide +kernel
theorem dX6_of_91 : decode cX6_of 91 = .ok (.iadd, 1) := by decide +kernel
theorem dX6_of_92 : decode cX6_of 92 = .ok (.ireturn, 1) := by decide +kernel
theorem dX6_of_93 : decode cX6_of 93 = .ok (.aload_n 0, 1) := by decide +kernel
theorem dX6_of_94 : decode cX6_of 94 = .ok (.getfield 7, 3) := by decide +kernel
theorem dX6_of_97 : decode cX6_of 97 = .ok (.iload_n 1, 1) := by decide +kernel
theorem dX6_of_98 : decode cX6_of 98 = .ok (.iconst 3, 1) := by decide +kernel
theorem dX6_of_99 : decode cX6_of 99 = .ok (.invokestatic 43, 3) := by decide +kernel
theorem dX6_of_102 : decode cX6_of 102 = .ok (.iaload, 1) := by decide +kernel
theorem dX6_of_103 : decode cX6_of 103 = .ok (.bipush 20, 2) := by decide +kernel
theorem dX6_of_105 : decode cX6_of 105 = .ok (.iadd, 1) := by decide +kernel
theorem dX6_of_106 : decode cX6_of 106 = .ok (.ireturn, 1) := by decide +kernel
theorem dX6_of_107 : decode cX6_of 107 = .ok (.aload_n 0, 1) := by decide +kernel
theorem dX6_of_108 : decode cX6_of 108 = .ok (.getfield 7, 3) := by decide +kernel
theorem dX6_of_111 : decode cX6_of 111 = .ok (.iload_n 1, 1) := by decide +kernel
theorem dX6_of_112 : decode cX6_of 112 = .ok (.iconst 4, 1) := by decide +kernel
theorem dX6_of_113 : decode cX6_of 113 = .ok (.invokestatic 43, 3) := by decide +kernel
theorem dX6_of_116 : decode cX6_of 116 = .ok (.iaload, 1) := by decide +kernel
theorem dX6_of_117 : decode cX6_of 117 = .ok (.ldc 120, 2) := by decide +kernel
theorem dX6_of_119 : decode cX6_of 119 = .ok (.iadd, 1) := by decide +kernel
theorem dX6_of_120 : decode cX6_of 120 = .ok (.ireturn, 1) := by decide +kernel
theorem dX6_of_121 : decode cX6_of 121 = .ok (.aload_n 0, 1) := by decide +kernel
theorem dX6_of_122 : decode cX6_of 122 = .ok (.getfield 7, 3) := by decide +kernel
theorem dX6_of_125 : decode cX6_of 125 = .ok (.iload_n 1, 1) := by decide +kernel
theorem dX6_of_126 : decode cX6_of 126 = .ok (.iload_n 2, 1) := by decide +kernel
theorem dX6_of_127 : decode cX6_of 127 = .ok (.invokestatic 43, 3) := by decide +kernel
theorem dX6_of_130 : decode cX6_of 130 = .ok (.iaload, 1) := by decide +kernel
theorem dX6_of_131 : decode cX6_of 131 = .ok (.ireturn, 1) := by decide +kernel
theorem dX6_of_132 : decode cX6_of 132 = .ok (.aload_n 0, 1) := by decide +kernel
theorem dX6_of_133 : decode cX6_of 133 = .ok (.iload_n 1, 1) := by decide +kernel
theorem dX6_of_134 : decode cX6_of 134 = .ok (.invokevirtual 121, 3) := by decide +kernel
theorem dX6_of_137 : decode cX6_of 137 = .ok (.ifCond .eq 7, 3) := by decide +kernel
theorem dX6_of_140 : decode cX6_of 140 = .ok (.iconst 0, 1) := by decide +kernel
theorem dX6_of_141 : decode cX6_of 141 = .ok (.goto 4, 3) := by decide +kernel
theorem dX6_of_144 : decode cX6_of 144 = .ok (.iconst 1, 1) := by decide +kernel
theorem dX6_of_145 : decode cX6_of 145 = .ok (.ireturn, 1) := by decide +kernel
theorem dX6_of_146 : decode cX6_of 146 = .ok (.aload_n 0, 1) := by decide +kernel
theorem dX6_of_147 : decode cX6_of 147 = .ok (.iload_n 1, 1) := by decide +kernel
theorem dX6_of_148 : decode cX6_of 148 = .ok (.invokevirtual 51, 3) := by decide +kernel
theorem dX6_of_151 : decode cX6_of 151 = .ok (.ireturn, 1) := by decide +kernel
theorem dX6_of_152 : decode cX6_of 152 = .ok (.aload_n 0, 1) := by decide +kernel
theorem dX6_of_153 : decode cX6_of 153 = .ok (.iload_n 1, 1) := by decide +kernel
theorem dX6_of_154 : decode cX6_of 154 = .ok (.invokevirtual 64, 3) := by decide +kernel
theorem dX6_of_157 : decode cX6_of 157 = .ok (.ifCond .eq 7, 3) := by decide +kernel
theorem dX6_of_160 : decode cX6_of 160 = .ok (.iconst 1, 1) := by decide +kernel
theorem dX6_of_161 : decode cX6_of 161 = .ok (.goto 4, 3) := by decide +kernel
theorem dX6_of_164 : decode cX6_of 164 = .ok (.iconst 0, 1) := by decide +kernel
theorem dX6_of_165 : decode cX6_of 165 = .ok (.ireturn, 1) := by decide +kernel
theorem dX6_of_166 : decode cX6_of 166 = .ok (.aload_n 0, 1) := by decide +kernel
theorem dX6_of_167 : decode cX6_of 167 = .ok (.getfield 7, 3) := by decide +kernel
theorem dX6_of_170 : decode cX6_of 170 = .ok (.iload_n 1, 1) := by decide +kernel
theorem dX6_of_171 : decode cX6_of 171 = .ok (.bipush 7, 2) := by decide +kernel
theorem dX6_of_173 : decode cX6_of 173 = .ok (.invokestatic 43, 3) := by decide +kernel
theorem dX6_of_176 : decode cX6_of 176 = .ok (.iaload, 1) := by decide +kernel
theorem dX6_of_177 : decode cX6_of 177 = .ok (.ireturn, 1) := by decide +kernel
theorem dX6_of_178 : decode cX6_of 178 = .ok (.bipush (-2), 2) := by decide +kernel
theorem dX6_of_180 : decode cX6_of 180 = .ok (.ireturn, 1) := by decide +kernel
set_option maxRecDepth 20000 in
theorem ggX6_ofLadder_X6_in : GoodIn wsX6_ofLadder wsX6_in := goodIn_r _ [5] (by decide +kernel) (by decide +kernel)
set_option maxRecDepth 20000 in
theorem gX6_ofLadder_X6_in : GoodIn wsX6_ofLadder (va_wsS RX6 35 yX6_in wsX6_in) := goodIn_app (goodIn_of _ (by decide +kernel)) ggX6_ofLadder_X6_in
theorem dX6_ofLadder_0 : decode cX6_ofLadder 0 = .ok (.iload_n 1, 1) := by decide +kernel
theorem dX6_ofLadder_1 : decode cX6_ofLadder 1 = .ok (.iconst 0, 1) := by decide +kernel
theorem dX6_ofLadder_2 : decode cX6_ofLadder 2 = .ok (.aload_n 0, 1) := by decide +kernel
theorem dX6_ofLadder_3 : decode cX6_ofLadder 3 = .ok (.getfield 7, 3) := by decide +kernel
theorem dX6_ofLadder_6 : decode cX6_ofLadder 6 = .ok (.bipush 6, 2) := by decide +kernel
theorem dX6_ofLadder_8 : decode cX6_ofLadder 8 = .ok (.iaload, 1) := by decide +kernel
theorem dX6_ofLadder_9 : decode cX6_ofLadder 9 = .ok (.iconst 1, 1) := by decide +kernel
theorem dX6_ofLadder_10 : decode cX6_ofLadder 10 = .ok (.isub, 1) := by decide +kernel
theorem dX6_ofLadder_11 : decode cX6_ofLadder 11 = .ok (.invokestatic 35, 3) := by decide +kernel
theorem dX6_ofLadder_14 : decode cX6_ofLadder 14 = .ok (.ifCond .eq 15, 3) := by decide +kernel
theorem dX6_ofLadder_17 : decode cX6_ofLadder 17 = .ok (.aload_n 0, 1) := by decide +kernel
theorem dX6_ofLadder_18 : decode cX6_ofLadder 18 = .ok (.getfield 7, 3) := by decide +kernel
theorem dX6_ofLadder_21 : decode cX6_ofLadder 21 = .ok (.bipush 8, 2) := by decide +kernel
theorem dX6_ofLadder_23 : decode cX6_ofLadder 23 = .ok (.iload_n 1, 1) := by decide +kernel
theorem dX6_ofLadder_24 : decode cX6_ofLadder 24 = .ok (.iadd, 1) := by decide +kernel
theorem dX6_ofLadder_25 : decode cX6_ofLadder 25 = .ok (.iaload, 1) := by decide +kernel
theorem dX6_ofLadder_26 : decode cX6_ofLadder 26 = .ok (.goto 4, 3) := by decide +kernel
theorem dX6_ofLadder_29 : decode cX6_ofLadder 29 = .ok (.iconst (-1), 1) := by decide +kernel
theorem dX6_ofLadder_30 : decode cX6_ofLadder 30 = .ok (.ireturn, 1) := by decide +kernel
set_option maxRecDepth 20000 in
theorem ggX6_sum_X6_at : GoodIn wsX6_sum wsX6_at := goodIn_r _ [5] (by decide +kernel) (by decide +kernel)
set_option maxRecDepth 20000 in
theorem gX6_sum_X6_at : GoodIn wsX6_sum (va_wsS RX6 43 yX6_at wsX6_at) := goodIn_app (goodIn_of _ (by decide +kernel)) ggX6_sum_X6_at
set_option maxRecDepth 20000 in
theorem ggX6_sum_X6_isOff : GoodIn wsX6_sum wsX6_isOff := goodIn_r _ [9, 1, 2, 3, 4, 5, 10, 11, 12, 21, 22, 23, 24, 25, 26, 27, 28, 29, 30, 31, 32, 33, 34, 35, 36, 37] (by decide +kernel) (by decide +kernel)
set_option maxRecDepth 20000 in
theorem gX6_sum_X6_isOff : GoodIn wsX6_sum (wsV RX6 121 RX6 yX6_isOff wsX6_isOff) := goodIn_app (goodIn_of _ (by decide +kernel)) ggX6_sum_X6_isOff
set_option maxRecDepth 20000 in
theorem ggX6_sum_X6_canWind : GoodIn wsX6_sum wsX6_canWind := goodIn_r _ [16, 1, 2, 3, 4, 5, 17, 18, 19, 20, 21, 22, 23, 24, 25, 26, 27, 28, 29, 30, 31, 32, 33, 34, 35, 36, 37] (by decide +kernel) (by decide +kernel)
set_option maxRecDepth 20000 in
theorem gX6_sum_X6_canWind : GoodIn wsX6_sum (wsV RX6 64 RX6 yX6_canWind wsX6_canWind) := goodIn_app (goodIn_of _ (by decide +kernel)) ggX6_sum_X6_canWind
theorem dX6_sum_0 : decode cX6_sum 0 = .ok (.iconst 0, 1) := by decide +kernel
theorem dX6_sum_1 : decode cX6_sum 1 = .ok (.istore_n 2, 1) := by decide +kernel
theorem dX6_sum_2 : decode cX6_sum 2 = .ok (.iconst 0, 1) := by decide +kernel
theorem dX6_sum_3 : decode cX6_sum 3 = .ok (.istore_n 3, 1) := by decide +kernel
theorem dX6_sum_4 : decode cX6_sum 4 = .ok (.iload_n 3, 1) := by decide +kernel
theorem dX6_sum_5 : decode cX6_sum 5 = .ok (.aload_n 0, 1) := by decide +kernel
theorem dX6_sum_6 : decode cX6_sum 6 = .ok (.getfield 7, 3) := by decide +kernel
theorem dX6_sum_9 : decode cX6_sum 9 = .ok (.iconst 5, 1) := by decide +kernel
theorem dX6_sum_10 : decode cX6_sum 10 = .ok (.iaload, 1) := by decide +kernel
theorem dX6_sum_11 : decode cX6_sum 11 = .ok (.if_icmp .ge 61, 3) := by decide +kernel
theorem dX6_sum_14 : decode cX6_sum 14 = .ok (.iload_n 2, 1) := by decide +kernel
theorem dX6_sum_15 : decode cX6_sum 15 = .ok (.iload_n 1, 1) := by decide +kernel
theorem dX6_sum_16 : decode cX6_sum 16 = .ok (.bipush 7, 2) := by decide +kernel
theorem dX6_sum_18 : decode cX6_sum 18 = .ok (.if_icmp .ne 17, 3) := by decide +kernel
theorem dX6_sum_21 : decode cX6_sum 21 = .ok (.aload_n 0, 1) := by decide +kernel
theorem dX6_sum_22 : decode cX6_sum 22 = .ok (.getfield 7, 3) := by decide +kernel
theorem dX6_sum_25 : decode cX6_sum 25 = .ok (.iload_n 3, 1) := by decide +kernel
theorem dX6_sum_26 : decode cX6_sum 26 = .ok (.bipush 7, 2) := by decide +kernel
theorem dX6_sum_28 : decode cX6_sum 28 = .ok (.invokestatic 43, 3) := by decide +kernel
theorem dX6_sum_31 : decode cX6_sum 31 = .ok (.iaload, 1) := by decide +kernel
theorem dX6_sum_32 : decode cX6_sum 32 = .ok (.goto 32, 3) := by decide +kernel
theorem dX6_sum_35 : decode cX6_sum 35 = .ok (.iload_n 1, 1) := by decide +kernel
theorem dX6_sum_36 : decode cX6_sum 36 = .ok (.iconst 4, 1) := by decide +kernel
theorem dX6_sum_37 : decode cX6_sum 37 = .ok (.if_icmp .ne 14, 3) := by decide +kernel
theorem dX6_sum_40 : decode cX6_sum 40 = .ok (.aload_n 0, 1) := by decide +kernel
theorem dX6_sum_41 : decode cX6_sum 41 = .ok (.iload_n 3, 1) := by decide +kernel
theorem dX6_sum_42 : decode cX6_sum 42 = .ok (.invokevirtual 121, 3) := by decide +kernel
theorem dX6_sum_45 : decode cX6_sum 45 = .ok (.ifCond .eq 18, 3) := by decide +kernel
theorem dX6_sum_48 : decode cX6_sum 48 = .ok (.goto 11, 3) := by decide +kernel
theorem dX6_sum_51 : decode cX6_sum 51 = .ok (.aload_n 0, 1) := by decide +kernel
theorem dX6_sum_52 : decode cX6_sum 52 = .ok (.iload_n 3, 1) := by decide +kernel
theorem dX6_sum_53 : decode cX6_sum 53 = .ok (.invokevirtual 64, 3) := by decide +kernel
theorem dX6_sum_56 : decode cX6_sum 56 = .ok (.ifCond .ne 7, 3) := by decide +kernel
theorem dX6_sum_59 : decode cX6_sum 59 = .ok (.iconst 1, 1) := by decide +kernel
theorem dX6_sum_60 : decode cX6_sum 60 = .ok (.goto 4, 3) := by decide +kernel
theorem dX6_sum_63 : decode cX6_sum 63 = .ok (.iconst 0, 1) := by decide +kernel
theorem dX6_sum_64 : decode cX6_sum 64 = .ok (.iadd, 1) := by decide +kernel
theorem dX6_sum_65 : decode cX6_sum 65 = .ok (.istore_n 2, 1) := by decide +kernel
theorem dX6_sum_66 : decode cX6_sum 66 = .ok (.iinc 3 1, 3) := by decide +kernel
theorem dX6_sum_69 : decode cX6_sum 69 = .ok (.goto (-65), 3) := by decide +kernel
theorem dX6_sum_72 : decode cX6_sum 72 = .ok (.iload_n 2, 1) := by decide +kernel
theorem dX6_sum_73 : decode cX6_sum 73 = .ok (.ireturn, 1) := by decide +kernel
set_option maxRecDepth 20000 in
theorem ggX6_count_X6_still : GoodIn wsX6_count wsX6_still := goodIn_r _ [8, 1, 9, 10, 7, 11, 31, 32, 33, 34, 35, 36, 37, 38, 39, 40, 41, 42, 43, 44, 45, 46, 47] (by decide +kernel) (by decide +kernel)
set_option maxRecDepth 20000 in
theorem gX6_count_X6_still : GoodIn wsX6_count (wsV RX6 79 RX6 yX6_still wsX6_still) := goodIn_app (goodIn_of _ (by decide +kernel)) ggX6_count_X6_still
set_option maxRecDepth 20000 in
theorem ggX6_count_X6_sum : GoodIn wsX6_count wsX6_sum := goodIn_r _ [15, 1, 9, 10, 7, 11, 16, 17, 18, 19, 20, 21, 22, 23, 24, 25, 26, 27, 28, 29, 30, 31, 32, 33, 34, 35, 36, 37, 38, 39, 40, 41, 42, 43, 44, 45, 46, 47] (by decide +kernel) (by decide +kernel)
set_option maxRecDepth 20000 in
theorem gX6_count_X6_sum : GoodIn wsX6_count (wsV RX6 124 RX6 yX6_sum wsX6_sum) := goodIn_app (goodIn_of _ (by decide +kernel)) ggX6_count_X6_sum
theorem dX6_count_0 : decode cX6_count 0 = .ok (.iload_n 1, 1) := by decide +kernel
theorem dX6_count_1 : decode cX6_count 1 = .ok (.tableswitch 121 0 13 #[71, 71, 71, 80, 85, 85, 91, 85, 99, 99, 99, 99, 111, 116], 71) := by decide +kernel
theorem dX6_count_72 : decode cX6_count 72 = .ok (.aload_n 0, 1) := by decide +kernel
theorem dX6_count_73 : decode cX6_count 73 = .ok (.getfield 7, 3) := by decide +kernel
theorem dX6_count_76 : decode cX6_count 76 = .ok (.iconst 4, 1) := by decide +kernel
theorem dX6_count_77 : decode cX6_count 77 = .ok (.iload_n 1, 1) := by decide +kernel
theorem dX6_count_78 : decode cX6_count 78 = .ok (.iadd, 1) := by decide +kernel
theorem dX6_count_79 : decode cX6_count 79 = .ok (.iaload, 1) := by decide +kernel
theorem dX6_count_80 : decode cX6_count 80 = .ok (.ireturn, 1) := by decide +kernel
theorem dX6_count_81 : decode cX6_count 81 = .ok (.aload_n 0, 1) := by decide +kernel
theorem dX6_count_82 : decode cX6_count 82 = .ok (.invokevirtual 79, 3) := by decide +kernel
theorem dX6_count_85 : decode cX6_count 85 = .ok (.ireturn, 1) := by decide +kernel
theorem dX6_count_86 : decode cX6_count 86 = .ok (.aload_n 0, 1) := by decide +kernel
theorem dX6_count_87 : decode cX6_count 87 = .ok (.iload_n 1, 1) := by decide +kernel
theorem dX6_count_88 : decode cX6_count 88 = .ok (.invokevirtual 124, 3) := by decide +kernel
theorem dX6_count_91 : decode cX6_count 91 = .ok (.ireturn, 1) := by decide +kernel
theorem dX6_count_92 : decode cX6_count 92 = .ok (.aload_n 0, 1) := by decide +kernel
theorem dX6_count_93 : decode cX6_count 93 = .ok (.getfield 7, 3) := by decide +kernel
theorem dX6_count_96 : decode cX6_count 96 = .ok (.bipush 7, 2) := by decide +kernel
theorem dX6_count_98 : decode cX6_count 98 = .ok (.iaload, 1) := by decide +kernel
theorem dX6_count_99 : decode cX6_count 99 = .ok (.ireturn, 1) := by decide +kernel
theorem dX6_count_100 : decode cX6_count 100 = .ok (.aload_n 0, 1) := by decide +kernel
theorem dX6_count_101 : decode cX6_count 101 = .ok (.getfield 7, 3) := by decide +kernel
theorem dX6_count_104 : decode cX6_count 104 = .ok (.iconst 0, 1) := by decide +kernel
theorem dX6_count_105 : decode cX6_count 105 = .ok (.iload_n 1, 1) := by decide +kernel
theorem dX6_count_106 : decode cX6_count 106 = .ok (.iadd, 1) := by decide +kernel
theorem dX6_count_107 : decode cX6_count 107 = .ok (.bipush 8, 2) := by decide +kernel
theorem dX6_count_109 : decode cX6_count 109 = .ok (.isub, 1) := by decide +kernel
theorem dX6_count_110 : decode cX6_count 110 = .ok (.iaload, 1) := by decide +kernel
theorem dX6_count_111 : decode cX6_count 111 = .ok (.ireturn, 1) := by decide +kernel
theorem dX6_count_112 : decode cX6_count 112 = .ok (.aload_n 0, 1) := by decide +kernel
theorem dX6_count_113 : decode cX6_count 113 = .ok (.getfield 127, 3) := by decide +kernel
theorem dX6_count_116 : decode cX6_count 116 = .ok (.ireturn, 1) := by decide +kernel
theorem dX6_count_117 : decode cX6_count 117 = .ok (.aload_n 0, 1) := by decide +kernel
theorem dX6_count_118 : decode cX6_count 118 = .ok (.getfield 39, 3) := by decide +kernel
theorem dX6_count_121 : decode cX6_count 121 = .ok (.ireturn, 1) := by decide +kernel
theorem dX6_count_122 : decode cX6_count 122 = .ok (.bipush (-2), 2) := by decide +kernel
theorem dX6_count_124 : decode cX6_count 124 = .ok (.ireturn, 1) := by decide +kernel
set_option maxRecDepth 20000 in
theorem ggX6_takes_X6_layOut : GoodIn wsX6_takes wsX6_layOut := goodIn_r _ [5, 6, 7, 8, 31, 32, 33, 34, 35, 36, 37, 38, 39, 40, 41, 42, 43, 44, 45, 46, 47] (by decide +kernel) (by decide +kernel)
set_option maxRecDepth 20000 in
theorem gX6_takes_X6_layOut : GoodIn wsX6_takes (wsV RX6 104 RX6 yX6_layOut wsX6_layOut) := goodIn_app (goodIn_of _ (by decide +kernel)) ggX6_takes_X6_layOut
set_option maxRecDepth 20000 in
theorem ggX6_takes_X6_minutes : GoodIn wsX6_takes wsX6_minutes := goodIn_r _ [12, 6, 8, 7, 13, 14, 15, 4, 16, 17, 18, 19, 20, 21, 22, 23, 24, 25, 26, 27, 28, 29, 30, 31, 32, 33, 34, 35, 36, 37, 38, 39, 40, 41, 42, 43, 44, 45, 46, 47] (by decide +kernel) (by decide +kernel)
set_option maxRecDepth 20000 in
theorem gX6_takes_X6_minutes : GoodIn wsX6_takes (wsV RX6 68 RX6 yX6_minutes wsX6_minutes) := goodIn_app (goodIn_of _ (by decide +kernel)) ggX6_takes_X6_minutes
theorem dX6_takes_0 : decode cX6_takes 0 = .ok (.aload_n 0, 1) := by decide +kernel
theorem dX6_takes_1 : decode cX6_takes 1 = .ok (.iload_n 1, 1) := by decide +kernel
theorem dX6_takes_2 : decode cX6_takes 2 = .ok (.iconst 0, 1) := by decide +kernel
theorem dX6_takes_3 : decode cX6_takes 3 = .ok (.invokevirtual 104, 3) := by decide +kernel
theorem dX6_takes_6 : decode cX6_takes 6 = .ok (.istore_n 2, 1) := by decide +kernel
theorem dX6_takes_7 : decode cX6_takes 7 = .ok (.iload_n 2, 1) := by decide +kernel
theorem dX6_takes_8 : decode cX6_takes 8 = .ok (.ifCond .ge 7, 3) := by decide +kernel
theorem dX6_takes_11 : decode cX6_takes 11 = .ok (.iload_n 2, 1) := by decide +kernel
theorem dX6_takes_12 : decode cX6_takes 12 = .ok (.goto 7, 3) := by decide +kernel
theorem dX6_takes_15 : decode cX6_takes 15 = .ok (.aload_n 0, 1) := by decide +kernel
theorem dX6_takes_16 : decode cX6_takes 16 = .ok (.invokevirtual 68, 3) := by decide +kernel
theorem dX6_takes_19 : decode cX6_takes 19 = .ok (.ireturn, 1) := by decide +kernel
set_option maxRecDepth 20000 in
theorem ggX6_keepClock_X6_at : GoodIn wsX6_keepClock wsX6_at := goodIn_r _ [6] (by decide +kernel) (by decide +kernel)
set_option maxRecDepth 20000 in
theorem gX6_keepClock_X6_at : GoodIn wsX6_keepClock (va_wsS RX6 43 yX6_at wsX6_at) := goodIn_app (goodIn_of _ (by decide +kernel)) ggX6_keepClock_X6_at
theorem dX6_keepClock_0 : decode cX6_keepClock 0 = .ok (.iconst 0, 1) := by decide +kernel
theorem dX6_keepClock_1 : decode cX6_keepClock 1 = .ok (.istore_n 2, 1) := by decide +kernel
theorem dX6_keepClock_2 : decode cX6_keepClock 2 = .ok (.iload_n 2, 1) := by decide +kernel
theorem dX6_keepClock_3 : decode cX6_keepClock 3 = .ok (.bipush 8, 2) := by decide +kernel
theorem dX6_keepClock_5 : decode cX6_keepClock 5 = .ok (.if_icmp .ge 25, 3) := by decide +kernel
theorem dX6_keepClock_8 : decode cX6_keepClock 8 = .ok (.aload_n 0, 1) := by decide +kernel
theorem dX6_keepClock_9 : decode cX6_keepClock 9 = .ok (.getfield 13, 3) := by decide +kernel
theorem dX6_keepClock_12 : decode cX6_keepClock 12 = .ok (.iload_n 2, 1) := by decide +kernel
theorem dX6_keepClock_13 : decode cX6_keepClock 13 = .ok (.aload_n 0, 1) := by decide +kernel
theorem dX6_keepClock_14 : decode cX6_keepClock 14 = .ok (.getfield 7, 3) := by decide +kernel
theorem dX6_keepClock_17 : decode cX6_keepClock 17 = .ok (.iload_n 1, 1) := by decide +kernel
theorem dX6_keepClock_18 : decode cX6_keepClock 18 = .ok (.iload_n 2, 1) := by decide +kernel
theorem dX6_keepClock_19 : decode cX6_keepClock 19 = .ok (.invokestatic 43, 3) := by decide +kernel
theorem dX6_keepClock_22 : decode cX6_keepClock 22 = .ok (.iaload, 1) := by decide +kernel
theorem dX6_keepClock_23 : decode cX6_keepClock 23 = .ok (.iastore, 1) := by decide +kernel
theorem dX6_keepClock_24 : decode cX6_keepClock 24 = .ok (.iinc 2 1, 3) := by decide +kernel
theorem dX6_keepClock_27 : decode cX6_keepClock 27 = .ok (.goto (-25), 3) := by decide +kernel
theorem dX6_keepClock_30 : decode cX6_keepClock 30 = .ok (.return_, 1) := by decide +kernel
set_option maxRecDepth 20000 in
theorem ggX6_lasts_X6_isClock : GoodIn wsX6_lasts wsX6_isClock := goodIn_r _ [7, 1, 8, 9, 6, 10, 34, 35, 36, 37, 38, 39, 40, 41, 42, 43, 44, 45, 46, 47, 48, 49, 50] (by decide +kernel) (by decide +kernel)
set_option maxRecDepth 20000 in
theorem gX6_lasts_X6_isClock : GoodIn wsX6_lasts (wsV RX6 101 RX6 yX6_isClock wsX6_isClock) := goodIn_app (goodIn_of _ (by decide +kernel)) ggX6_lasts_X6_isClock
set_option maxRecDepth 20000 in
theorem ggX6_lasts_X6_keepClock : GoodIn wsX6_lasts wsX6_keepClock := goodIn_r _ [14, 2, 1, 15, 16, 6, 17, 34, 35, 36, 37, 38, 39, 40, 41, 42, 43, 44, 45, 46, 47, 48, 49, 50] (by decide +kernel) (by decide +kernel)
set_option maxRecDepth 20000 in
theorem gX6_lasts_X6_keepClock : GoodIn wsX6_lasts (wsV RX6 130 RX6 yX6_keepClock wsX6_keepClock) := goodIn_app (goodIn_of _ (by decide +kernel)) ggX6_lasts_X6_keepClock
set_option maxRecDepth 20000 in
theorem ggX6_lasts_X6_isOff : GoodIn wsX6_lasts wsX6_isOff := goodIn_r _ [21, 1, 15, 16, 6, 17, 22, 23, 24, 34, 35, 36, 37, 38, 39, 40, 41, 42, 43, 44, 45, 46, 47, 48, 49, 50] (by decide +kernel) (by decide +kernel)
set_option maxRecDepth 20000 in
theorem gX6_lasts_X6_isOff : GoodIn wsX6_lasts (wsV RX6 121 RX6 yX6_isOff wsX6_isOff) := goodIn_app (goodIn_of _ (by decide +kernel)) ggX6_lasts_X6_isOff
set_option maxRecDepth 20000 in
theorem ggX6_lasts_X6_day : GoodIn wsX6_lasts wsX6_day := goodIn_r _ [28, 1, 29, 15, 16, 6, 17, 30, 31, 32, 33, 34, 35, 36, 37, 38, 39, 40, 41, 42, 43, 44, 45, 46, 47, 48, 49, 50] (by decide +kernel) (by decide +kernel)
set_option maxRecDepth 20000 in
theorem gX6_lasts_X6_day : GoodIn wsX6_lasts (wsV RX6 76 RX6 yX6_day wsX6_day) := goodIn_app (goodIn_of _ (by decide +kernel)) ggX6_lasts_X6_day
set_option maxRecDepth 20000 in
theorem ggX6_lasts_X6_at : GoodIn wsX6_lasts wsX6_at := goodIn_r _ [17] (by decide +kernel) (by decide +kernel)
set_option maxRecDepth 20000 in
theorem gX6_lasts_X6_at : GoodIn wsX6_lasts (va_wsS RX6 43 yX6_at wsX6_at) := goodIn_app (goodIn_of _ (by decide +kernel)) ggX6_lasts_X6_at
theorem dX6_lasts_0 : decode cX6_lasts 0 = .ok (.aload_n 0, 1) := by decide +kernel
theorem dX6_lasts_1 : decode cX6_lasts 1 = .ok (.iload_n 1, 1) := by decide +kernel
theorem dX6_lasts_2 : decode cX6_lasts 2 = .ok (.invokevirtual 101, 3) := by decide +kernel
theorem dX6_lasts_5 : decode cX6_lasts 5 = .ok (.ifCond .ne 5, 3) := by decide +kernel
theorem dX6_lasts_8 : decode cX6_lasts 8 = .ok (.iconst (-1), 1) := by decide +kernel
theorem dX6_lasts_9 : decode cX6_lasts 9 = .ok (.ireturn, 1) := by decide +kernel
theorem dX6_lasts_10 : decode cX6_lasts 10 = .ok (.aload_n 0, 1) := by decide +kernel
theorem dX6_lasts_11 : decode cX6_lasts 11 = .ok (.iload_n 1, 1) := by decide +kernel
theorem dX6_lasts_12 : decode cX6_lasts 12 = .ok (.invokevirtual 130, 3) := by decide +kernel
theorem dX6_lasts_15 : decode cX6_lasts 15 = .ok (.iconst 0, 1) := by decide +kernel
theorem dX6_lasts_16 : decode cX6_lasts 16 = .ok (.istore_n 2, 1) := by decide +kernel
theorem dX6_lasts_17 : decode cX6_lasts 17 = .ok (.aload_n 0, 1) := by decide +kernel
theorem dX6_lasts_18 : decode cX6_lasts 18 = .ok (.iload_n 1, 1) := by decide +kernel
theorem dX6_lasts_19 : decode cX6_lasts 19 = .ok (.invokevirtual 121, 3) := by decide +kernel
theorem dX6_lasts_22 : decode cX6_lasts 22 = .ok (.ifCond .ne 14, 3) := by decide +kernel
theorem dX6_lasts_25 : decode cX6_lasts 25 = .ok (.aload_n 0, 1) := by decide +kernel
theorem dX6_lasts_26 : decode cX6_lasts 26 = .ok (.iload_n 1, 1) := by decide +kernel
theorem dX6_lasts_27 : decode cX6_lasts 27 = .ok (.invokevirtual 76, 3) := by decide +kernel
theorem dX6_lasts_30 : decode cX6_lasts 30 = .ok (.iinc 2 1, 3) := by decide +kernel
theorem dX6_lasts_33 : decode cX6_lasts 33 = .ok (.goto (-16), 3) := by decide +kernel
theorem dX6_lasts_36 : decode cX6_lasts 36 = .ok (.iconst 0, 1) := by decide +kernel
theorem dX6_lasts_37 : decode cX6_lasts 37 = .ok (.istore_n 3, 1) := by decide +kernel
theorem dX6_lasts_38 : decode cX6_lasts 38 = .ok (.iload_n 3, 1) := by decide +kernel
theorem dX6_lasts_39 : decode cX6_lasts 39 = .ok (.bipush 8, 2) := by decide +kernel
theorem dX6_lasts_41 : decode cX6_lasts 41 = .ok (.if_icmp .ge 25, 3) := by decide +kernel
theorem dX6_lasts_44 : decode cX6_lasts 44 = .ok (.aload_n 0, 1) := by decide +kernel
theorem dX6_lasts_45 : decode cX6_lasts 45 = .ok (.getfield 7, 3) := by decide +kernel
theorem dX6_lasts_48 : decode cX6_lasts 48 = .ok (.iload_n 1, 1) := by decide +kernel
theorem dX6_lasts_49 : decode cX6_lasts 49 = .ok (.iload_n 3, 1) := by decide +kernel
theorem dX6_lasts_50 : decode cX6_lasts 50 = .ok (.invokestatic 43, 3) := by decide +kernel
theorem dX6_lasts_53 : decode cX6_lasts 53 = .ok (.aload_n 0, 1) := by decide +kernel
theorem dX6_lasts_54 : decode cX6_lasts 54 = .ok (.getfield 13, 3) := by decide +kernel
theorem dX6_lasts_57 : decode cX6_lasts 57 = .ok (.iload_n 3, 1) := by decide +kernel
theorem dX6_lasts_58 : decode cX6_lasts 58 = .ok (.iaload, 1) := by decide +kernel
theorem dX6_lasts_59 : decode cX6_lasts 59 = .ok (.iastore, 1) := by decide +kernel
theorem dX6_lasts_60 : decode cX6_lasts 60 = .ok (.iinc 3 1, 3) := by decide +kernel
theorem dX6_lasts_63 : decode cX6_lasts 63 = .ok (.goto (-25), 3) := by decide +kernel
theorem dX6_lasts_66 : decode cX6_lasts 66 = .ok (.iload_n 2, 1) := by decide +kernel
theorem dX6_lasts_67 : decode cX6_lasts 67 = .ok (.ireturn, 1) := by decide +kernel
set_option maxRecDepth 20000 in
theorem ggX6_needs_X6_lasts : GoodIn wsX6_needs wsX6_lasts := goodIn_r _ [7, 1, 8, 9, 10, 11, 6, 12, 13, 14, 15, 16, 17, 18, 19, 20, 21, 22, 23, 24, 25, 26, 27, 28, 29, 30, 31, 32, 33, 34, 35, 36, 37, 38, 39, 40, 41, 42, 43, 44, 45, 46, 47, 48, 49, 50, 51, 52, 53, 54, 55] (by decide +kernel) (by decide +kernel)
set_option maxRecDepth 20000 in
theorem gX6_needs_X6_lasts : GoodIn wsX6_needs (wsV RX6 133 RX6 yX6_lasts wsX6_lasts) := goodIn_app (goodIn_of _ (by decide +kernel)) ggX6_needs_X6_lasts
theorem dX6_needs_0 : decode cX6_needs 0 = .ok (.iconst 0, 1) := by decide +kernel
theorem dX6_needs_1 : decode cX6_needs 1 = .ok (.istore_n 2, 1) := by decide +kernel
theorem dX6_needs_2 : decode cX6_needs 2 = .ok (.iload_n 2, 1) := by decide +kernel
theorem dX6_needs_3 : decode cX6_needs 3 = .ok (.aload_n 0, 1) := by decide +kernel
theorem dX6_needs_4 : decode cX6_needs 4 = .ok (.getfield 7, 3) := by decide +kernel
theorem dX6_needs_7 : decode cX6_needs 7 = .ok (.iconst 5, 1) := by decide +kernel
theorem dX6_needs_8 : decode cX6_needs 8 = .ok (.iaload, 1) := by decide +kernel
theorem dX6_needs_9 : decode cX6_needs 9 = .ok (.if_icmp .ge 20, 3) := by decide +kernel
theorem dX6_needs_12 : decode cX6_needs 12 = .ok (.aload_n 0, 1) := by decide +kernel
theorem dX6_needs_13 : decode cX6_needs 13 = .ok (.getfield 32, 3) := by decide +kernel
theorem dX6_needs_16 : decode cX6_needs 16 = .ok (.iload_n 2, 1) := by decide +kernel
theorem dX6_needs_17 : decode cX6_needs 17 = .ok (.aload_n 0, 1) := by decide +kernel
theorem dX6_needs_18 : decode cX6_needs 18 = .ok (.iload_n 2, 1) := by decide +kernel
theorem dX6_needs_19 : decode cX6_needs 19 = .ok (.invokevirtual 133, 3) := by decide +kernel
theorem dX6_needs_22 : decode cX6_needs 22 = .ok (.iastore, 1) := by decide +kernel
theorem dX6_needs_23 : decode cX6_needs 23 = .ok (.iinc 2 1, 3) := by decide +kernel
theorem dX6_needs_26 : decode cX6_needs 26 = .ok (.goto (-24), 3) := by decide +kernel
theorem dX6_needs_29 : decode cX6_needs 29 = .ok (.iconst 0, 1) := by decide +kernel
theorem dX6_needs_30 : decode cX6_needs 30 = .ok (.istore_n 2, 1) := by decide +kernel
theorem dX6_needs_31 : decode cX6_needs 31 = .ok (.iload_n 2, 1) := by decide +kernel
theorem dX6_needs_32 : decode cX6_needs 32 = .ok (.aload_n 0, 1) := by decide +kernel
theorem dX6_needs_33 : decode cX6_needs 33 = .ok (.getfield 7, 3) := by decide +kernel
theorem dX6_needs_36 : decode cX6_needs 36 = .ok (.iconst 5, 1) := by decide +kernel
theorem dX6_needs_37 : decode cX6_needs 37 = .ok (.iaload, 1) := by decide +kernel
theorem dX6_needs_38 : decode cX6_needs 38 = .ok (.if_icmp .ge 84, 3) := by decide +kernel
theorem dX6_needs_41 : decode cX6_needs 41 = .ok (.iconst 0, 1) := by decide +kernel
theorem dX6_needs_42 : decode cX6_needs 42 = .ok (.istore_n 3, 1) := by decide +kernel
theorem dX6_needs_43 : decode cX6_needs 43 = .ok (.iconst 0, 1) := by decide +kernel
theorem dX6_needs_44 : decode cX6_needs 44 = .ok (.istore 4, 2) := by decide +kernel
theorem dX6_needs_46 : decode cX6_needs 46 = .ok (.iload 4, 2) := by decide +kernel
theorem dX6_needs_48 : decode cX6_needs 48 = .ok (.aload_n 0, 1) := by decide +kernel
theorem dX6_needs_49 : decode cX6_needs 49 = .ok (.getfield 7, 3) := by decide +kernel
theorem dX6_needs_52 : decode cX6_needs 52 = .ok (.iconst 5, 1) := by decide +kernel
theorem dX6_needs_53 : decode cX6_needs 53 = .ok (.iaload, 1) := by decide +kernel
theorem dX6_needs_54 : decode cX6_needs 54 = .ok (.if_icmp .ge 55, 3) := by decide +kernel
theorem dX6_needs_57 : decode cX6_needs 57 = .ok (.iload_n 3, 1) := by decide +kernel
theorem dX6_needs_58 : decode cX6_needs 58 = .ok (.aload_n 0, 1) := by decide +kernel
theorem dX6_needs_59 : decode cX6_needs 59 = .ok (.getfield 32, 3) := by decide +kernel
theorem dX6_needs_62 : decode cX6_needs 62 = .ok (.iload 4, 2) := by decide +kernel
theorem dX6_needs_64 : decode cX6_needs 64 = .ok (.iaload, 1) := by decide +kernel
theorem dX6_needs_65 : decode cX6_needs 65 = .ok (.aload_n 0, 1) := by decide +kernel
theorem dX6_needs_66 : decode cX6_needs 66 = .ok (.getfield 32, 3) := by decide +kernel
theorem dX6_needs_69 : decode cX6_needs 69 = .ok (.iload_n 2, 1) := by decide +kernel
theorem dX6_needs_70 : decode cX6_needs 70 = .ok (.iaload, 1) := by decide +kernel
theorem dX6_needs_71 : decode cX6_needs 71 = .ok (.if_icmp .lt 25, 3) := by decide +kernel
theorem dX6_needs_74 : decode cX6_needs 74 = .ok (.aload_n 0, 1) := by decide +kernel
theorem dX6_needs_75 : decode cX6_needs 75 = .ok (.getfield 32, 3) := by decide +kernel
theorem dX6_needs_78 : decode cX6_needs 78 = .ok (.iload 4, 2) := by decide +kernel
theorem dX6_needs_80 : decode cX6_needs 80 = .ok (.iaload, 1) := by decide +kernel
theorem dX6_needs_81 : decode cX6_needs 81 = .ok (.aload_n 0, 1) := by decide +kernel
theorem dX6_needs_82 : decode cX6_needs 82 = .ok (.getfield 32, 3) := by decide +kernel
theorem dX6_needs_85 : decode cX6_needs 85 = .ok (.iload_n 2, 1) := by decide +kernel
theorem dX6_needs_86 : decode cX6_needs 86 = .ok (.iaload, 1) := by decide +kernel
theorem dX6_needs_87 : decode cX6_needs 87 = .ok (.if_icmp .ne 13, 3) := by decide +kernel
theorem dX6_needs_90 : decode cX6_needs 90 = .ok (.iload 4, 2) := by decide +kernel
theorem dX6_needs_92 : decode cX6_needs 92 = .ok (.iload_n 2, 1) := by decide +kernel
theorem dX6_needs_93 : decode cX6_needs 93 = .ok (.if_icmp .ge 7, 3) := by decide +kernel
theorem dX6_needs_96 : decode cX6_needs 96 = .ok (.iconst 1, 1) := by decide +kernel
theorem dX6_needs_97 : decode cX6_needs 97 = .ok (.goto 4, 3) := by decide +kernel
theorem dX6_needs_100 : decode cX6_needs 100 = .ok (.iconst 0, 1) := by decide +kernel
theorem dX6_needs_101 : decode cX6_needs 101 = .ok (.iadd, 1) := by decide +kernel
theorem dX6_needs_102 : decode cX6_needs 102 = .ok (.istore_n 3, 1) := by decide +kernel
theorem dX6_needs_103 : decode cX6_needs 103 = .ok (.iinc 4 1, 3) := by decide +kernel
theorem dX6_needs_106 : decode cX6_needs 106 = .ok (.goto (-60), 3) := by decide +kernel
theorem dX6_needs_109 : decode cX6_needs 109 = .ok (.iload_n 3, 1) := by decide +kernel
theorem dX6_needs_110 : decode cX6_needs 110 = .ok (.iload_n 1, 1) := by decide +kernel
theorem dX6_needs_111 : decode cX6_needs 111 = .ok (.if_icmp .ne 5, 3) := by decide +kernel
theorem dX6_needs_114 : decode cX6_needs 114 = .ok (.iload_n 2, 1) := by decide +kernel
theorem dX6_needs_115 : decode cX6_needs 115 = .ok (.ireturn, 1) := by decide +kernel
theorem dX6_needs_116 : decode cX6_needs 116 = .ok (.iinc 2 1, 3) := by decide +kernel
theorem dX6_needs_119 : decode cX6_needs 119 = .ok (.goto (-88), 3) := by decide +kernel
theorem dX6_needs_122 : decode cX6_needs 122 = .ok (.iconst (-1), 1) := by decide +kernel
theorem dX6_needs_123 : decode cX6_needs 123 = .ok (.ireturn, 1) := by decide +kernel
set_option maxRecDepth 20000 in
theorem ggX6_ladderFor_X6_canWind : GoodIn wsX6_ladderFor wsX6_canWind := goodIn_r _ [6, 1, 7, 8, 5, 9, 10, 11, 12, 13, 14, 15, 16, 17, 18, 19, 20, 21, 22, 23, 24, 25, 26, 27, 28, 29, 30] (by decide +kernel) (by decide +kernel)
set_option maxRecDepth 20000 in
theorem gX6_ladderFor_X6_canWind : GoodIn wsX6_ladderFor (wsV RX6 64 RX6 yX6_canWind wsX6_canWind) := goodIn_app (goodIn_of _ (by decide +kernel)) ggX6_ladderFor_X6_canWind
set_option maxRecDepth 20000 in
theorem ggX6_ladderFor_X6_at : GoodIn wsX6_ladderFor wsX6_at := goodIn_r _ [9] (by decide +kernel) (by decide +kernel)
set_option maxRecDepth 20000 in
theorem gX6_ladderFor_X6_at : GoodIn wsX6_ladderFor (va_wsS RX6 43 yX6_at wsX6_at) := goodIn_app (goodIn_of _ (by decide +kernel)) ggX6_ladderFor_X6_at
theorem dX6_ladderFor_0 : decode cX6_ladderFor 0 = .ok (.aload_n 0, 1) := by decide +kernel
theorem dX6_ladderFor_1 : decode cX6_ladderFor 1 = .ok (.getfield 7, 3) := by decide +kernel
theorem dX6_ladderFor_4 : decode cX6_ladderFor 4 = .ok (.bipush 6, 2) := by decide +kernel
theorem dX6_ladderFor_6 : decode cX6_ladderFor 6 = .ok (.iaload, 1) := by decide +kernel
theorem dX6_ladderFor_7 : decode cX6_ladderFor 7 = .ok (.iconst 4, 1) := by decide +kernel
theorem dX6_ladderFor_8 : decode cX6_ladderFor 8 = .ok (.if_icmp .ne 6, 3) := by decide +kernel
theorem dX6_ladderFor_11 : decode cX6_ladderFor 11 = .ok (.bipush (-4), 2) := by decide +kernel
theorem dX6_ladderFor_13 : decode cX6_ladderFor 13 = .ok (.ireturn, 1) := by decide +kernel
theorem dX6_ladderFor_14 : decode cX6_ladderFor 14 = .ok (.bipush (-6), 2) := by decide +kernel
theorem dX6_ladderFor_16 : decode cX6_ladderFor 16 = .ok (.istore_n 1, 1) := by decide +kernel
theorem dX6_ladderFor_17 : decode cX6_ladderFor 17 = .ok (.iconst 0, 1) := by decide +kernel
theorem dX6_ladderFor_18 : decode cX6_ladderFor 18 = .ok (.istore_n 2, 1) := by decide +kernel
theorem dX6_ladderFor_19 : decode cX6_ladderFor 19 = .ok (.iload_n 2, 1) := by decide +kernel
theorem dX6_ladderFor_20 : decode cX6_ladderFor 20 = .ok (.aload_n 0, 1) := by decide +kernel
theorem dX6_ladderFor_21 : decode cX6_ladderFor 21 = .ok (.getfield 7, 3) := by decide +kernel
theorem dX6_ladderFor_24 : decode cX6_ladderFor 24 = .ok (.iconst 5, 1) := by decide +kernel
theorem dX6_ladderFor_25 : decode cX6_ladderFor 25 = .ok (.iaload, 1) := by decide +kernel
theorem dX6_ladderFor_26 : decode cX6_ladderFor 26 = .ok (.if_icmp .ge 46, 3) := by decide +kernel
theorem dX6_ladderFor_29 : decode cX6_ladderFor 29 = .ok (.aload_n 0, 1) := by decide +kernel
theorem dX6_ladderFor_30 : decode cX6_ladderFor 30 = .ok (.iload_n 2, 1) := by decide +kernel
theorem dX6_ladderFor_31 : decode cX6_ladderFor 31 = .ok (.invokevirtual 64, 3) := by decide +kernel
theorem dX6_ladderFor_34 : decode cX6_ladderFor 34 = .ok (.ifCond .ne 30, 3) := by decide +kernel
theorem dX6_ladderFor_37 : decode cX6_ladderFor 37 = .ok (.aload_n 0, 1) := by decide +kernel
theorem dX6_ladderFor_38 : decode cX6_ladderFor 38 = .ok (.getfield 7, 3) := by decide +kernel
theorem dX6_ladderFor_41 : decode cX6_ladderFor 41 = .ok (.iload_n 2, 1) := by decide +kernel
theorem dX6_ladderFor_42 : decode cX6_ladderFor 42 = .ok (.iconst 1, 1) := by decide +kernel
theorem dX6_ladderFor_43 : decode cX6_ladderFor 43 = .ok (.invokestatic 43, 3) := by decide +kernel
theorem dX6_ladderFor_46 : decode cX6_ladderFor 46 = .ok (.iaload, 1) := by decide +kernel
theorem dX6_ladderFor_47 : decode cX6_ladderFor 47 = .ok (.iload_n 1, 1) := by decide +kernel
theorem dX6_ladderFor_48 : decode cX6_ladderFor 48 = .ok (.if_icmp .le 16, 3) := by decide +kernel
theorem dX6_ladderFor_51 : decode cX6_ladderFor 51 = .ok (.aload_n 0, 1) := by decide +kernel
theorem dX6_ladderFor_52 : decode cX6_ladderFor 52 = .ok (.getfield 7, 3) := by decide +kernel
theorem dX6_ladderFor_55 : decode cX6_ladderFor 55 = .ok (.iload_n 2, 1) := by decide +kernel
theorem dX6_ladderFor_56 : decode cX6_ladderFor 56 = .ok (.iconst 1, 1) := by decide +kernel
theorem dX6_ladderFor_57 : decode cX6_ladderFor 57 = .ok (.invokestatic 43, 3) := by decide +kernel
theorem dX6_ladderFor_60 : decode cX6_ladderFor 60 = .ok (.iaload, 1) := by decide +kernel
theorem dX6_ladderFor_61 : decode cX6_ladderFor 61 = .ok (.goto 4, 3) := by decide +kernel
theorem dX6_ladderFor_64 : decode cX6_ladderFor 64 = .ok (.iload_n 1, 1) := by decide +kernel
theorem dX6_ladderFor_65 : decode cX6_ladderFor 65 = .ok (.istore_n 1, 1) := by decide +kernel
theorem dX6_ladderFor_66 : decode cX6_ladderFor 66 = .ok (.iinc 2 1, 3) := by decide +kernel
theorem dX6_ladderFor_69 : decode cX6_ladderFor 69 = .ok (.goto (-50), 3) := by decide +kernel
theorem dX6_ladderFor_72 : decode cX6_ladderFor 72 = .ok (.iload_n 1, 1) := by decide +kernel
theorem dX6_ladderFor_73 : decode cX6_ladderFor 73 = .ok (.ireturn, 1) := by decide +kernel
set_option maxRecDepth 20000 in
theorem ggX6_wayRound_X6_layOut : GoodIn wsX6_wayRound wsX6_layOut := goodIn_r _ [5, 6, 7, 8, 31, 32, 33, 34, 35, 36, 37, 38, 39, 40, 41, 42, 43, 44, 45, 46, 47] (by decide +kernel) (by decide +kernel)
set_option maxRecDepth 20000 in
theorem gX6_wayRound_X6_layOut : GoodIn wsX6_wayRound (wsV RX6 104 RX6 yX6_layOut wsX6_layOut) := goodIn_app (goodIn_of _ (by decide +kernel)) ggX6_wayRound_X6_layOut
set_option maxRecDepth 20000 in
theorem ggX6_wayRound_X6_minutes : GoodIn wsX6_wayRound wsX6_minutes := goodIn_r _ [12, 6, 8, 7, 13, 14, 15, 4, 16, 17, 18, 19, 20, 21, 22, 23, 24, 25, 26, 27, 28, 29, 30, 31, 32, 33, 34, 35, 36, 37, 38, 39, 40, 41, 42, 43, 44, 45, 46, 47] (by decide +kernel) (by decide +kernel)
set_option maxRecDepth 20000 in
theorem gX6_wayRound_X6_minutes : GoodIn wsX6_wayRound (wsV RX6 68 RX6 yX6_minutes wsX6_minutes) := goodIn_app (goodIn_of _ (by decide +kernel)) ggX6_wayRound_X6_minutes
theorem dX6_wayRound_0 : decode cX6_wayRound 0 = .ok (.aload_n 0, 1) := by decide +kernel
theorem dX6_wayRound_1 : decode cX6_wayRound 1 = .ok (.iload_n 1, 1) := by decide +kernel
theorem dX6_wayRound_2 : decode cX6_wayRound 2 = .ok (.iconst 0, 1) := by decide +kernel
theorem dX6_wayRound_3 : decode cX6_wayRound 3 = .ok (.invokevirtual 104, 3) := by decide +kernel
theorem dX6_wayRound_6 : decode cX6_wayRound 6 = .ok (.istore_n 2, 1) := by decide +kernel
theorem dX6_wayRound_7 : decode cX6_wayRound 7 = .ok (.iload_n 2, 1) := by decide +kernel
theorem dX6_wayRound_8 : decode cX6_wayRound 8 = .ok (.ifCond .ge 5, 3) := by decide +kernel
theorem dX6_wayRound_11 : decode cX6_wayRound 11 = .ok (.iload_n 2, 1) := by decide +kernel
theorem dX6_wayRound_12 : decode cX6_wayRound 12 = .ok (.ireturn, 1) := by decide +kernel
theorem dX6_wayRound_13 : decode cX6_wayRound 13 = .ok (.aload_n 0, 1) := by decide +kernel
theorem dX6_wayRound_14 : decode cX6_wayRound 14 = .ok (.invokevirtual 68, 3) := by decide +kernel
theorem dX6_wayRound_17 : decode cX6_wayRound 17 = .ok (.istore_n 3, 1) := by decide +kernel
theorem dX6_wayRound_18 : decode cX6_wayRound 18 = .ok (.aload_n 0, 1) := by decide +kernel
theorem dX6_wayRound_19 : decode cX6_wayRound 19 = .ok (.iload_n 1, 1) := by decide +kernel
theorem dX6_wayRound_20 : decode cX6_wayRound 20 = .ok (.iconst 1, 1) := by decide +kernel
theorem dX6_wayRound_21 : decode cX6_wayRound 21 = .ok (.invokevirtual 104, 3) := by decide +kernel
theorem dX6_wayRound_24 : decode cX6_wayRound 24 = .ok (.istore 4, 2) := by decide +kernel
theorem dX6_wayRound_26 : decode cX6_wayRound 26 = .ok (.aload_n 0, 1) := by decide +kernel
theorem dX6_wayRound_27 : decode cX6_wayRound 27 = .ok (.invokevirtual 68, 3) := by decide +kernel
theorem dX6_wayRound_30 : decode cX6_wayRound 30 = .ok (.istore 5, 2) := by decide +kernel
theorem dX6_wayRound_32 : decode cX6_wayRound 32 = .ok (.iload_n 3, 1) := by decide +kernel
theorem dX6_wayRound_33 : decode cX6_wayRound 33 = .ok (.iload 5, 2) := by decide +kernel
theorem dX6_wayRound_35 : decode cX6_wayRound 35 = .ok (.if_icmp .ge 7, 3) := by decide +kernel
theorem dX6_wayRound_38 : decode cX6_wayRound 38 = .ok (.iconst 0, 1) := by decide +kernel
theorem dX6_wayRound_39 : decode cX6_wayRound 39 = .ok (.goto 14, 3) := by decide +kernel
theorem dX6_wayRound_42 : decode cX6_wayRound 42 = .ok (.iload 5, 2) := by decide +kernel
theorem dX6_wayRound_44 : decode cX6_wayRound 44 = .ok (.iload_n 3, 1) := by decide +kernel
theorem dX6_wayRound_45 : decode cX6_wayRound 45 = .ok (.if_icmp .ge 7, 3) := by decide +kernel
theorem dX6_wayRound_48 : decode cX6_wayRound 48 = .ok (.iconst 1, 1) := by decide +kernel
theorem dX6_wayRound_49 : decode cX6_wayRound 49 = .ok (.goto 4, 3) := by decide +kernel
theorem dX6_wayRound_52 : decode cX6_wayRound 52 = .ok (.iconst 2, 1) := by decide +kernel
theorem dX6_wayRound_53 : decode cX6_wayRound 53 = .ok (.ireturn, 1) := by decide +kernel
set_option maxRecDepth 20000 in
theorem ggX6_put_X6_in : GoodIn wsX6_put wsX6_in := goodIn_r _ [7] (by decide +kernel) (by decide +kernel)
set_option maxRecDepth 20000 in
theorem gX6_put_X6_in : GoodIn wsX6_put (va_wsS RX6 35 yX6_in wsX6_in) := goodIn_app (goodIn_of _ (by decide +kernel)) ggX6_put_X6_in
theorem dX6_put_0 : decode cX6_put 0 = .ok (.iconst 0, 1) := by decide +kernel
theorem dX6_put_1 : decode cX6_put 1 = .ok (.istore_n 3, 1) := by decide +kernel
theorem dX6_put_2 : decode cX6_put 2 = .ok (.iconst 0, 1) := by decide +kernel
theorem dX6_put_3 : decode cX6_put 3 = .ok (.istore 4, 2) := by decide +kernel
theorem dX6_put_5 : decode cX6_put 5 = .ok (.iconst 0, 1) := by decide +kernel
theorem dX6_put_6 : decode cX6_put 6 = .ok (.istore 5, 2) := by decide +kernel
theorem dX6_put_8 : decode cX6_put 8 = .ok (.iload 5, 2) := by decide +kernel
theorem dX6_put_10 : decode cX6_put 10 = .ok (.bipush 8, 2) := by decide +kernel
theorem dX6_put_12 : decode cX6_put 12 = .ok (.if_icmp .ge 89, 3) := by decide +kernel
theorem dX6_put_15 : decode cX6_put 15 = .ok (.lload_n 1, 1) := by decide +kernel
theorem dX6_put_16 : decode cX6_put 16 = .ok (.bipush 8, 2) := by decide +kernel
theorem dX6_put_18 : decode cX6_put 18 = .ok (.iload 5, 2) := by decide +kernel
theorem dX6_put_20 : decode cX6_put 20 = .ok (.imul, 1) := by decide +kernel
theorem dX6_put_21 : decode cX6_put 21 = .ok (.lushr, 1) := by decide +kernel
theorem dX6_put_22 : decode cX6_put 22 = .ok (.ldc2_w 136, 3) := by decide +kernel
theorem dX6_put_25 : decode cX6_put 25 = .ok (.land, 1) := by decide +kernel
theorem dX6_put_26 : decode cX6_put 26 = .ok (.l2i, 1) := by decide +kernel
theorem dX6_put_27 : decode cX6_put 27 = .ok (.istore 6, 2) := by decide +kernel
theorem dX6_put_29 : decode cX6_put 29 = .ok (.iload 5, 2) := by decide +kernel
theorem dX6_put_31 : decode cX6_put 31 = .ok (.ifCond .le 19, 3) := by decide +kernel
theorem dX6_put_34 : decode cX6_put 34 = .ok (.lload_n 1, 1) := by decide +kernel
theorem dX6_put_35 : decode cX6_put 35 = .ok (.bipush 8, 2) := by decide +kernel
theorem dX6_put_37 : decode cX6_put 37 = .ok (.iload 5, 2) := by decide +kernel
theorem dX6_put_39 : decode cX6_put 39 = .ok (.imul, 1) := by decide +kernel
theorem dX6_put_40 : decode cX6_put 40 = .ok (.lushr, 1) := by decide +kernel
theorem dX6_put_41 : decode cX6_put 41 = .ok (.lconst 0, 1) := by decide +kernel
theorem dX6_put_42 : decode cX6_put 42 = .ok (.lcmp, 1) := by decide +kernel
theorem dX6_put_43 : decode cX6_put 43 = .ok (.ifCond .ne 7, 3) := by decide +kernel
theorem dX6_put_46 : decode cX6_put 46 = .ok (.iconst 1, 1) := by decide +kernel
theorem dX6_put_47 : decode cX6_put 47 = .ok (.goto 4, 3) := by decide +kernel
theorem dX6_put_50 : decode cX6_put 50 = .ok (.iconst 0, 1) := by decide +kernel
theorem dX6_put_51 : decode cX6_put 51 = .ok (.istore 7, 2) := by decide +kernel
theorem dX6_put_53 : decode cX6_put 53 = .ok (.iload 4, 2) := by decide +kernel
theorem dX6_put_55 : decode cX6_put 55 = .ok (.ifCond .ne 20, 3) := by decide +kernel
theorem dX6_put_58 : decode cX6_put 58 = .ok (.iload 7, 2) := by decide +kernel
theorem dX6_put_60 : decode cX6_put 60 = .ok (.ifCond .ne 19, 3) := by decide +kernel
theorem dX6_put_63 : decode cX6_put 63 = .ok (.iload 6, 2) := by decide +kernel
theorem dX6_put_65 : decode cX6_put 65 = .ok (.bipush 33, 2) := by decide +kernel
theorem dX6_put_67 : decode cX6_put 67 = .ok (.bipush 126, 2) := by decide +kernel
theorem dX6_put_69 : decode cX6_put 69 = .ok (.invokestatic 35, 3) := by decide +kernel
theorem dX6_put_72 : decode cX6_put 72 = .ok (.ifCond .ne 7, 3) := by decide +kernel
theorem dX6_put_75 : decode cX6_put 75 = .ok (.iconst 1, 1) := by decide +kernel
theorem dX6_put_76 : decode cX6_put 76 = .ok (.goto 4, 3) := by decide +kernel
theorem dX6_put_79 : decode cX6_put 79 = .ok (.iconst 0, 1) := by decide +kernel
theorem dX6_put_80 : decode cX6_put 80 = .ok (.istore 4, 2) := by decide +kernel
theorem dX6_put_82 : decode cX6_put 82 = .ok (.iload_n 3, 1) := by decide +kernel
theorem dX6_put_83 : decode cX6_put 83 = .ok (.iload 7, 2) := by decide +kernel
theorem dX6_put_85 : decode cX6_put 85 = .ok (.ifCond .eq 7, 3) := by decide +kernel
theorem dX6_put_88 : decode cX6_put 88 = .ok (.iconst 0, 1) := by decide +kernel
theorem dX6_put_89 : decode cX6_put 89 = .ok (.goto 4, 3) := by decide +kernel
theorem dX6_put_92 : decode cX6_put 92 = .ok (.iconst 1, 1) := by decide +kernel
theorem dX6_put_93 : decode cX6_put 93 = .ok (.iadd, 1) := by decide +kernel
theorem dX6_put_94 : decode cX6_put 94 = .ok (.istore_n 3, 1) := by decide +kernel
theorem dX6_put_95 : decode cX6_put 95 = .ok (.iinc 5 1, 3) := by decide +kernel
theorem dX6_put_98 : decode cX6_put 98 = .ok (.goto (-90), 3) := by decide +kernel
theorem dX6_put_101 : decode cX6_put 101 = .ok (.iload 4, 2) := by decide +kernel
theorem dX6_put_103 : decode cX6_put 103 = .ok (.ifCond .eq 6, 3) := by decide +kernel
theorem dX6_put_106 : decode cX6_put 106 = .ok (.bipush (-2), 2) := by decide +kernel
theorem dX6_put_108 : decode cX6_put 108 = .ok (.ireturn, 1) := by decide +kernel
theorem dX6_put_109 : decode cX6_put 109 = .ok (.aload_n 0, 1) := by decide +kernel
theorem dX6_put_110 : decode cX6_put 110 = .ok (.getfield 127, 3) := by decide +kernel
theorem dX6_put_113 : decode cX6_put 113 = .ok (.iload_n 3, 1) := by decide +kernel
theorem dX6_put_114 : decode cX6_put 114 = .ok (.iadd, 1) := by decide +kernel
theorem dX6_put_115 : decode cX6_put 115 = .ok (.bipush 80, 2) := by decide +kernel
theorem dX6_put_117 : decode cX6_put 117 = .ok (.if_icmp .le 6, 3) := by decide +kernel
theorem dX6_put_120 : decode cX6_put 120 = .ok (.bipush (-4), 2) := by decide +kernel
theorem dX6_put_122 : decode cX6_put 122 = .ok (.ireturn, 1) := by decide +kernel
theorem dX6_put_123 : decode cX6_put 123 = .ok (.iconst 0, 1) := by decide +kernel
theorem dX6_put_124 : decode cX6_put 124 = .ok (.istore 5, 2) := by decide +kernel
theorem dX6_put_126 : decode cX6_put 126 = .ok (.iload 5, 2) := by decide +kernel
theorem dX6_put_128 : decode cX6_put 128 = .ok (.iload_n 3, 1) := by decide +kernel
theorem dX6_put_129 : decode cX6_put 129 = .ok (.if_icmp .ge 37, 3) := by decide +kernel
theorem dX6_put_132 : decode cX6_put 132 = .ok (.aload_n 0, 1) := by decide +kernel
theorem dX6_put_133 : decode cX6_put 133 = .ok (.getfield 26, 3) := by decide +kernel
theorem dX6_put_136 : decode cX6_put 136 = .ok (.aload_n 0, 1) := by decide +kernel
theorem dX6_put_137 : decode cX6_put 137 = .ok (.getfield 127, 3) := by decide +kernel
theorem dX6_put_140 : decode cX6_put 140 = .ok (.iload_n 3, 1) := by decide +kernel
theorem dX6_put_141 : decode cX6_put 141 = .ok (.iadd, 1) := by decide +kernel
theorem dX6_put_142 : decode cX6_put 142 = .ok (.iconst 1, 1) := by decide +kernel
theorem dX6_put_143 : decode cX6_put 143 = .ok (.isub, 1) := by decide +kernel
theorem dX6_put_144 : decode cX6_put 144 = .ok (.iload 5, 2) := by decide +kernel
theorem dX6_put_146 : decode cX6_put 146 = .ok (.isub, 1) := by decide +kernel
theorem dX6_put_147 : decode cX6_put 147 = .ok (.lload_n 1, 1) := by decide +kernel
theorem dX6_put_148 : decode cX6_put 148 = .ok (.bipush 8, 2) := by decide +kernel
theorem dX6_put_150 : decode cX6_put 150 = .ok (.iload 5, 2) := by decide +kernel
theorem dX6_put_152 : decode cX6_put 152 = .ok (.imul, 1) := by decide +kernel
theorem dX6_put_153 : decode cX6_put 153 = .ok (.lushr, 1) := by decide +kernel
theorem dX6_put_154 : decode cX6_put 154 = .ok (.ldc2_w 136, 3) := by decide +kernel
theorem dX6_put_157 : decode cX6_put 157 = .ok (.land, 1) := by decide +kernel
theorem dX6_put_158 : decode cX6_put 158 = .ok (.l2i, 1) := by decide +kernel
theorem dX6_put_159 : decode cX6_put 159 = .ok (.iastore, 1) := by decide +kernel
theorem dX6_put_160 : decode cX6_put 160 = .ok (.iinc 5 1, 3) := by decide +kernel
theorem dX6_put_163 : decode cX6_put 163 = .ok (.goto (-37), 3) := by decide +kernel
theorem dX6_put_166 : decode cX6_put 166 = .ok (.aload_n 0, 1) := by decide +kernel
theorem dX6_put_167 : decode cX6_put 167 = .ok (.dup, 1) := by decide +kernel
theorem dX6_put_168 : decode cX6_put 168 = .ok (.getfield 127, 3) := by decide +kernel
theorem dX6_put_171 : decode cX6_put 171 = .ok (.iload_n 3, 1) := by decide +kernel
theorem dX6_put_172 : decode cX6_put 172 = .ok (.iadd, 1) := by decide +kernel
theorem dX6_put_173 : decode cX6_put 173 = .ok (.putfield 127, 3) := by decide +kernel
theorem dX6_put_176 : decode cX6_put 176 = .ok (.aload_n 0, 1) := by decide +kernel
theorem dX6_put_177 : decode cX6_put 177 = .ok (.getfield 127, 3) := by decide +kernel
theorem dX6_put_180 : decode cX6_put 180 = .ok (.ireturn, 1) := by decide +kernel
theorem dX6_wipe_0 : decode cX6_wipe 0 = .ok (.aload_n 0, 1) := by decide +kernel
theorem dX6_wipe_1 : decode cX6_wipe 1 = .ok (.getfield 127, 3) := by decide +kernel
theorem dX6_wipe_4 : decode cX6_wipe 4 = .ok (.istore_n 1, 1) := by decide +kernel
theorem dX6_wipe_5 : decode cX6_wipe 5 = .ok (.aload_n 0, 1) := by decide +kernel
theorem dX6_wipe_6 : decode cX6_wipe 6 = .ok (.iconst 0, 1) := by decide +kernel
theorem dX6_wipe_7 : decode cX6_wipe 7 = .ok (.putfield 127, 3) := by decide +kernel
theorem dX6_wipe_10 : decode cX6_wipe 10 = .ok (.iload_n 1, 1) := by decide +kernel
theorem dX6_wipe_11 : decode cX6_wipe 11 = .ok (.ireturn, 1) := by decide +kernel
set_option maxRecDepth 20000 in
theorem ggX6_sign_X6_in : GoodIn wsX6_sign wsX6_in := goodIn_r _ [8] (by decide +kernel) (by decide +kernel)
set_option maxRecDepth 20000 in
theorem gX6_sign_X6_in : GoodIn wsX6_sign (va_wsS RX6 35 yX6_in wsX6_in) := goodIn_app (goodIn_of _ (by decide +kernel)) ggX6_sign_X6_in
theorem dX6_sign_0 : decode cX6_sign 0 = .ok (.aload_n 0, 1) := by decide +kernel
theorem dX6_sign_1 : decode cX6_sign 1 = .ok (.getfield 138, 3) := by decide +kernel
theorem dX6_sign_4 : decode cX6_sign 4 = .ok (.aload_n 0, 1) := by decide +kernel
theorem dX6_sign_5 : decode cX6_sign 5 = .ok (.getfield 127, 3) := by decide +kernel
theorem dX6_sign_8 : decode cX6_sign 8 = .ok (.if_icmp .ge 15, 3) := by decide +kernel
theorem dX6_sign_11 : decode cX6_sign 11 = .ok (.aload_n 0, 1) := by decide +kernel
theorem dX6_sign_12 : decode cX6_sign 12 = .ok (.getfield 26, 3) := by decide +kernel
theorem dX6_sign_15 : decode cX6_sign 15 = .ok (.aload_n 0, 1) := by decide +kernel
theorem dX6_sign_16 : decode cX6_sign 16 = .ok (.getfield 138, 3) := by decide +kernel
theorem dX6_sign_19 : decode cX6_sign 19 = .ok (.iaload, 1) := by decide +kernel
theorem dX6_sign_20 : decode cX6_sign 20 = .ok (.goto 4, 3) := by decide +kernel
theorem dX6_sign_23 : decode cX6_sign 23 = .ok (.iconst 0, 1) := by decide +kernel
theorem dX6_sign_24 : decode cX6_sign 24 = .ok (.istore_n 3, 1) := by decide +kernel
theorem dX6_sign_25 : decode cX6_sign 25 = .ok (.aload_n 0, 1) := by decide +kernel
theorem dX6_sign_26 : decode cX6_sign 26 = .ok (.aload_n 0, 1) := by decide +kernel
theorem dX6_sign_27 : decode cX6_sign 27 = .ok (.getfield 141, 3) := by decide +kernel
theorem dX6_sign_30 : decode cX6_sign 30 = .ok (.ifCond .ne 12, 3) := by decide +kernel
theorem dX6_sign_33 : decode cX6_sign 33 = .ok (.iload_n 3, 1) := by decide +kernel
theorem dX6_sign_34 : decode cX6_sign 34 = .ok (.iload_n 1, 1) := by decide +kernel
theorem dX6_sign_35 : decode cX6_sign 35 = .ok (.iload_n 2, 1) := by decide +kernel
theorem dX6_sign_36 : decode cX6_sign 36 = .ok (.invokestatic 35, 3) := by decide +kernel
theorem dX6_sign_39 : decode cX6_sign 39 = .ok (.ifCond .ne 7, 3) := by decide +kernel
theorem dX6_sign_42 : decode cX6_sign 42 = .ok (.iconst 1, 1) := by decide +kernel
theorem dX6_sign_43 : decode cX6_sign 43 = .ok (.goto 4, 3) := by decide +kernel
theorem dX6_sign_46 : decode cX6_sign 46 = .ok (.iconst 0, 1) := by decide +kernel
theorem dX6_sign_47 : decode cX6_sign 47 = .ok (.putfield 141, 3) := by decide +kernel
theorem dX6_sign_50 : decode cX6_sign 50 = .ok (.aload_n 0, 1) := by decide +kernel
theorem dX6_sign_51 : decode cX6_sign 51 = .ok (.dup, 1) := by decide +kernel
theorem dX6_sign_52 : decode cX6_sign 52 = .ok (.getfield 138, 3) := by decide +kernel
theorem dX6_sign_55 : decode cX6_sign 55 = .ok (.aload_n 0, 1) := by decide +kernel
theorem dX6_sign_56 : decode cX6_sign 56 = .ok (.getfield 141, 3) := by decide +kernel
theorem dX6_sign_59 : decode cX6_sign 59 = .ok (.ifCond .eq 7, 3) := by decide +kernel
theorem dX6_sign_62 : decode cX6_sign 62 = .ok (.iconst 0, 1) := by decide +kernel
theorem dX6_sign_63 : decode cX6_sign 63 = .ok (.goto 4, 3) := by decide +kernel
theorem dX6_sign_66 : decode cX6_sign 66 = .ok (.iconst 1, 1) := by decide +kernel
theorem dX6_sign_67 : decode cX6_sign 67 = .ok (.iadd, 1) := by decide +kernel
theorem dX6_sign_68 : decode cX6_sign 68 = .ok (.putfield 138, 3) := by decide +kernel
theorem dX6_sign_71 : decode cX6_sign 71 = .ok (.iload_n 3, 1) := by decide +kernel
theorem dX6_sign_72 : decode cX6_sign 72 = .ok (.ireturn, 1) := by decide +kernel
set_option maxRecDepth 20000 in
theorem ggX6_isNext_X6_in : GoodIn wsX6_isNext wsX6_in := goodIn_r _ [8] (by decide +kernel) (by decide +kernel)
set_option maxRecDepth 20000 in
theorem gX6_isNext_X6_in : GoodIn wsX6_isNext (va_wsS RX6 35 yX6_in wsX6_in) := goodIn_app (goodIn_of _ (by decide +kernel)) ggX6_isNext_X6_in
theorem dX6_isNext_0 : decode cX6_isNext 0 = .ok (.aload_n 0, 1) := by decide +kernel
theorem dX6_isNext_1 : decode cX6_isNext 1 = .ok (.getfield 141, 3) := by decide +kernel
theorem dX6_isNext_4 : decode cX6_isNext 4 = .ok (.ifCond .ne 35, 3) := by decide +kernel
theorem dX6_isNext_7 : decode cX6_isNext 7 = .ok (.aload_n 0, 1) := by decide +kernel
theorem dX6_isNext_8 : decode cX6_isNext 8 = .ok (.getfield 138, 3) := by decide +kernel
theorem dX6_isNext_11 : decode cX6_isNext 11 = .ok (.aload_n 0, 1) := by decide +kernel
theorem dX6_isNext_12 : decode cX6_isNext 12 = .ok (.getfield 127, 3) := by decide +kernel
theorem dX6_isNext_15 : decode cX6_isNext 15 = .ok (.if_icmp .ge 24, 3) := by decide +kernel
theorem dX6_isNext_18 : decode cX6_isNext 18 = .ok (.aload_n 0, 1) := by decide +kernel
theorem dX6_isNext_19 : decode cX6_isNext 19 = .ok (.getfield 26, 3) := by decide +kernel
theorem dX6_isNext_22 : decode cX6_isNext 22 = .ok (.aload_n 0, 1) := by decide +kernel
theorem dX6_isNext_23 : decode cX6_isNext 23 = .ok (.getfield 138, 3) := by decide +kernel
theorem dX6_isNext_26 : decode cX6_isNext 26 = .ok (.iaload, 1) := by decide +kernel
theorem dX6_isNext_27 : decode cX6_isNext 27 = .ok (.iload_n 1, 1) := by decide +kernel
theorem dX6_isNext_28 : decode cX6_isNext 28 = .ok (.iload_n 2, 1) := by decide +kernel
theorem dX6_isNext_29 : decode cX6_isNext 29 = .ok (.invokestatic 35, 3) := by decide +kernel
theorem dX6_isNext_32 : decode cX6_isNext 32 = .ok (.ifCond .eq 7, 3) := by decide +kernel
theorem dX6_isNext_35 : decode cX6_isNext 35 = .ok (.iconst 1, 1) := by decide +kernel
theorem dX6_isNext_36 : decode cX6_isNext 36 = .ok (.goto 4, 3) := by decide +kernel
theorem dX6_isNext_39 : decode cX6_isNext 39 = .ok (.iconst 0, 1) := by decide +kernel
theorem dX6_isNext_40 : decode cX6_isNext 40 = .ok (.ireturn, 1) := by decide +kernel
set_option maxRecDepth 20000 in
theorem ggX6_number_X6_sign : GoodIn wsX6_number wsX6_sign := goodIn_r _ [5, 6, 7, 8, 9, 10, 11, 4, 12, 17, 18, 19, 20, 21, 22, 23, 24, 25, 26, 27, 28, 29, 30, 31, 32, 33] (by decide +kernel) (by decide +kernel)
set_option maxRecDepth 20000 in
theorem gX6_number_X6_sign : GoodIn wsX6_number (wsV RX6 145 RX6 yX6_sign wsX6_sign) := goodIn_app (goodIn_of _ (by decide +kernel)) ggX6_number_X6_sign
set_option maxRecDepth 20000 in
theorem ggX6_number_X6_isNext : GoodIn wsX6_number wsX6_isNext := goodIn_r _ [16, 9, 6, 7, 8, 10, 11, 4, 12, 17, 18, 19, 20, 21, 22, 23, 24, 25, 26, 27, 28, 29, 30, 31, 32, 33] (by decide +kernel) (by decide +kernel)
set_option maxRecDepth 20000 in
theorem gX6_number_X6_isNext : GoodIn wsX6_number (wsV RX6 148 RX6 yX6_isNext wsX6_isNext) := goodIn_app (goodIn_of _ (by decide +kernel)) ggX6_number_X6_isNext
theorem dX6_number_0 : decode cX6_number 0 = .ok (.aload_n 0, 1) := by decide +kernel
theorem dX6_number_1 : decode cX6_number 1 = .ok (.bipush 48, 2) := by decide +kernel
theorem dX6_number_3 : decode cX6_number 3 = .ok (.bipush 57, 2) := by decide +kernel
theorem dX6_number_5 : decode cX6_number 5 = .ok (.invokevirtual 145, 3) := by decide +kernel
theorem dX6_number_8 : decode cX6_number 8 = .ok (.bipush 48, 2) := by decide +kernel
theorem dX6_number_10 : decode cX6_number 10 = .ok (.isub, 1) := by decide +kernel
theorem dX6_number_11 : decode cX6_number 11 = .ok (.istore_n 1, 1) := by decide +kernel
theorem dX6_number_12 : decode cX6_number 12 = .ok (.iload_n 1, 1) := by decide +kernel
theorem dX6_number_13 : decode cX6_number 13 = .ok (.ifCond .le 33, 3) := by decide +kernel
theorem dX6_number_16 : decode cX6_number 16 = .ok (.aload_n 0, 1) := by decide +kernel
theorem dX6_number_17 : decode cX6_number 17 = .ok (.bipush 48, 2) := by decide +kernel
theorem dX6_number_19 : decode cX6_number 19 = .ok (.bipush 57, 2) := by decide +kernel
theorem dX6_number_21 : decode cX6_number 21 = .ok (.invokevirtual 148, 3) := by decide +kernel
theorem dX6_number_24 : decode cX6_number 24 = .ok (.ifCond .eq 22, 3) := by decide +kernel
theorem dX6_number_27 : decode cX6_number 27 = .ok (.bipush 10, 2) := by decide +kernel
theorem dX6_number_29 : decode cX6_number 29 = .ok (.iload_n 1, 1) := by decide +kernel
theorem dX6_number_30 : decode cX6_number 30 = .ok (.imul, 1) := by decide +kernel
theorem dX6_number_31 : decode cX6_number 31 = .ok (.aload_n 0, 1) := by decide +kernel
theorem dX6_number_32 : decode cX6_number 32 = .ok (.bipush 48, 2) := by decide +kernel
theorem dX6_number_34 : decode cX6_number 34 = .ok (.bipush 57, 2) := by decide +kernel
theorem dX6_number_36 : decode cX6_number 36 = .ok (.invokevirtual 145, 3) := by decide +kernel
theorem dX6_number_39 : decode cX6_number 39 = .ok (.iadd, 1) := by decide +kernel
theorem dX6_number_40 : decode cX6_number 40 = .ok (.bipush 48, 2) := by decide +kernel
theorem dX6_number_42 : decode cX6_number 42 = .ok (.isub, 1) := by decide +kernel
theorem dX6_number_43 : decode cX6_number 43 = .ok (.goto 4, 3) := by decide +kernel
theorem dX6_number_46 : decode cX6_number 46 = .ok (.iload_n 1, 1) := by decide +kernel
theorem dX6_number_47 : decode cX6_number 47 = .ok (.ireturn, 1) := by decide +kernel
set_option maxRecDepth 20000 in
theorem ggX6_order_X6_number : GoodIn wsX6_order wsX6_number := goodIn_r _ [15, 16, 17, 18, 14, 19, 1, 2, 3, 4, 20, 21, 22, 23, 24, 25, 26, 27, 28, 29, 30, 31, 32, 33, 34, 35, 36, 37, 38, 39, 40, 41, 42, 43] (by decide +kernel) (by decide +kernel)
set_option maxRecDepth 20000 in
theorem gX6_order_X6_number : GoodIn wsX6_order (wsV RX6 155 RX6 yX6_number wsX6_number) := goodIn_app (goodIn_of _ (by decide +kernel)) ggX6_order_X6_number
set_option maxRecDepth 20000 in
theorem ggX6_order_X6_sign : GoodIn wsX6_order wsX6_sign := goodIn_r _ [19, 1, 2, 3, 4, 20, 21, 14, 22, 27, 28, 29, 30, 31, 32, 33, 34, 35, 36, 37, 38, 39, 40, 41, 42, 43] (by decide +kernel) (by decide +kernel)
set_option maxRecDepth 20000 in
theorem gX6_order_X6_sign : GoodIn wsX6_order (wsV RX6 145 RX6 yX6_sign wsX6_sign) := goodIn_app (goodIn_of _ (by decide +kernel)) ggX6_order_X6_sign
set_option maxRecDepth 20000 in
theorem ggX6_order_X6_isNext : GoodIn wsX6_order wsX6_isNext := goodIn_r _ [26, 4, 1, 2, 3, 20, 21, 14, 22, 27, 28, 29, 30, 31, 32, 33, 34, 35, 36, 37, 38, 39, 40, 41, 42, 43] (by decide +kernel) (by decide +kernel)
set_option maxRecDepth 20000 in
theorem gX6_order_X6_isNext : GoodIn wsX6_order (wsV RX6 148 RX6 yX6_isNext wsX6_isNext) := goodIn_app (goodIn_of _ (by decide +kernel)) ggX6_order_X6_isNext
theorem dX6_order_0 : decode cX6_order 0 = .ok (.aload_n 0, 1) := by decide +kernel
theorem dX6_order_1 : decode cX6_order 1 = .ok (.getfield 138, 3) := by decide +kernel
theorem dX6_order_4 : decode cX6_order 4 = .ok (.aload_n 0, 1) := by decide +kernel
theorem dX6_order_5 : decode cX6_order 5 = .ok (.getfield 127, 3) := by decide +kernel
theorem dX6_order_8 : decode cX6_order 8 = .ok (.if_icmp .ge 15, 3) := by decide +kernel
theorem dX6_order_11 : decode cX6_order 11 = .ok (.aload_n 0, 1) := by decide +kernel
theorem dX6_order_12 : decode cX6_order 12 = .ok (.getfield 26, 3) := by decide +kernel
theorem dX6_order_15 : decode cX6_order 15 = .ok (.aload_n 0, 1) := by decide +kernel
theorem dX6_order_16 : decode cX6_order 16 = .ok (.getfield 138, 3) := by decide +kernel
theorem dX6_order_19 : decode cX6_order 19 = .ok (.iaload, 1) := by decide +kernel
theorem dX6_order_20 : decode cX6_order 20 = .ok (.goto 4, 3) := by decide +kernel
theorem dX6_order_23 : decode cX6_order 23 = .ok (.iconst 0, 1) := by decide +kernel
theorem dX6_order_24 : decode cX6_order 24 = .ok (.istore_n 1, 1) := by decide +kernel
theorem dX6_order_25 : decode cX6_order 25 = .ok (.iload_n 1, 1) := by decide +kernel
theorem dX6_order_26 : decode cX6_order 26 = .ok (.bipush 115, 2) := by decide +kernel
theorem dX6_order_28 : decode cX6_order 28 = .ok (.if_icmp .eq 9, 3) := by decide +kernel
theorem dX6_order_31 : decode cX6_order 31 = .ok (.iload_n 1, 1) := by decide +kernel
theorem dX6_order_32 : decode cX6_order 32 = .ok (.bipush 97, 2) := by decide +kernel
theorem dX6_order_34 : decode cX6_order 34 = .ok (.if_icmp .ne 7, 3) := by decide +kernel
theorem dX6_order_37 : decode cX6_order 37 = .ok (.iconst 1, 1) := by decide +kernel
theorem dX6_order_38 : decode cX6_order 38 = .ok (.goto 4, 3) := by decide +kernel
theorem dX6_order_41 : decode cX6_order 41 = .ok (.iconst 0, 1) := by decide +kernel
theorem dX6_order_42 : decode cX6_order 42 = .ok (.istore_n 2, 1) := by decide +kernel
theorem dX6_order_43 : decode cX6_order 43 = .ok (.aload_n 0, 1) := by decide +kernel
theorem dX6_order_44 : decode cX6_order 44 = .ok (.aload_n 0, 1) := by decide +kernel
theorem dX6_order_45 : decode cX6_order 45 = .ok (.getfield 141, 3) := by decide +kernel
theorem dX6_order_48 : decode cX6_order 48 = .ok (.ifCond .ne 31, 3) := by decide +kernel
theorem dX6_order_51 : decode cX6_order 51 = .ok (.iload_n 2, 1) := by decide +kernel
theorem dX6_order_52 : decode cX6_order 52 = .ok (.ifCond .ne 31, 3) := by decide +kernel
theorem dX6_order_55 : decode cX6_order 55 = .ok (.iload_n 1, 1) := by decide +kernel
theorem dX6_order_56 : decode cX6_order 56 = .ok (.bipush 43, 2) := by decide +kernel
theorem dX6_order_58 : decode cX6_order 58 = .ok (.if_icmp .eq 25, 3) := by decide +kernel
theorem dX6_order_61 : decode cX6_order 61 = .ok (.iload_n 1, 1) := by decide +kernel
theorem dX6_order_62 : decode cX6_order 62 = .ok (.bipush 108, 2) := by decide +kernel
theorem dX6_order_64 : decode cX6_order 64 = .ok (.if_icmp .eq 19, 3) := by decide +kernel
theorem dX6_order_67 : decode cX6_order 67 = .ok (.iload_n 1, 1) := by decide +kernel
theorem dX6_order_68 : decode cX6_order 68 = .ok (.bipush 98, 2) := by decide +kernel
theorem dX6_order_70 : decode cX6_order 70 = .ok (.if_icmp .eq 13, 3) := by decide +kernel
theorem dX6_order_73 : decode cX6_order 73 = .ok (.iload_n 1, 1) := by decide +kernel
theorem dX6_order_74 : decode cX6_order 74 = .ok (.bipush 116, 2) := by decide +kernel
theorem dX6_order_76 : decode cX6_order 76 = .ok (.if_icmp .eq 7, 3) := by decide +kernel
theorem dX6_order_79 : decode cX6_order 79 = .ok (.iconst 1, 1) := by decide +kernel
theorem dX6_order_80 : decode cX6_order 80 = .ok (.goto 4, 3) := by decide +kernel
theorem dX6_order_83 : decode cX6_order 83 = .ok (.iconst 0, 1) := by decide +kernel
theorem dX6_order_84 : decode cX6_order 84 = .ok (.putfield 141, 3) := by decide +kernel
theorem dX6_order_87 : decode cX6_order 87 = .ok (.aload_n 0, 1) := by decide +kernel
theorem dX6_order_88 : decode cX6_order 88 = .ok (.dup, 1) := by decide +kernel
theorem dX6_order_89 : decode cX6_order 89 = .ok (.getfield 138, 3) := by decide +kernel
theorem dX6_order_92 : decode cX6_order 92 = .ok (.aload_n 0, 1) := by decide +kernel
theorem dX6_order_93 : decode cX6_order 93 = .ok (.getfield 141, 3) := by decide +kernel
theorem dX6_order_96 : decode cX6_order 96 = .ok (.ifCond .eq 7, 3) := by decide +kernel
theorem dX6_order_99 : decode cX6_order 99 = .ok (.iconst 0, 1) := by decide +kernel
theorem dX6_order_100 : decode cX6_order 100 = .ok (.goto 4, 3) := by decide +kernel
theorem dX6_order_103 : decode cX6_order 103 = .ok (.iconst 1, 1) := by decide +kernel
theorem dX6_order_104 : decode cX6_order 104 = .ok (.iadd, 1) := by decide +kernel
theorem dX6_order_105 : decode cX6_order 105 = .ok (.putfield 138, 3) := by decide +kernel
theorem dX6_order_108 : decode cX6_order 108 = .ok (.aload_n 0, 1) := by decide +kernel
theorem dX6_order_109 : decode cX6_order 109 = .ok (.iload_n 1, 1) := by decide +kernel
theorem dX6_order_110 : decode cX6_order 110 = .ok (.putfield 152, 3) := by decide +kernel
theorem dX6_order_113 : decode cX6_order 113 = .ok (.aload_n 0, 1) := by decide +kernel
theorem dX6_order_114 : decode cX6_order 114 = .ok (.iload_n 2, 1) := by decide +kernel
theorem dX6_order_115 : decode cX6_order 115 = .ok (.ifCond .eq 7, 3) := by decide +kernel
theorem dX6_order_118 : decode cX6_order 118 = .ok (.iconst 0, 1) := by decide +kernel
theorem dX6_order_119 : decode cX6_order 119 = .ok (.goto 7, 3) := by decide +kernel
theorem dX6_order_122 : decode cX6_order 122 = .ok (.aload_n 0, 1) := by decide +kernel
theorem dX6_order_123 : decode cX6_order 123 = .ok (.invokevirtual 155, 3) := by decide +kernel
theorem dX6_order_126 : decode cX6_order 126 = .ok (.putfield 158, 3) := by decide +kernel
theorem dX6_order_129 : decode cX6_order 129 = .ok (.iload_n 1, 1) := by decide +kernel
theorem dX6_order_130 : decode cX6_order 130 = .ok (.bipush 43, 2) := by decide +kernel
theorem dX6_order_132 : decode cX6_order 132 = .ok (.if_icmp .ne 78, 3) := by decide +kernel
theorem dX6_order_135 : decode cX6_order 135 = .ok (.aload_n 0, 1) := by decide +kernel
theorem dX6_order_136 : decode cX6_order 136 = .ok (.bipush 94, 2) := by decide +kernel
theorem dX6_order_138 : decode cX6_order 138 = .ok (.bipush 94, 2) := by decide +kernel
theorem dX6_order_140 : decode cX6_order 140 = .ok (.invokevirtual 145, 3) := by decide +kernel
theorem dX6_order_143 : decode cX6_order 143 = .ok (.istore_n 3, 1) := by decide +kernel
theorem dX6_order_144 : decode cX6_order 144 = .ok (.aload_n 0, 1) := by decide +kernel
theorem dX6_order_145 : decode cX6_order 145 = .ok (.aload_n 0, 1) := by decide +kernel
theorem dX6_order_146 : decode cX6_order 146 = .ok (.invokevirtual 155, 3) := by decide +kernel
theorem dX6_order_149 : decode cX6_order 149 = .ok (.putfield 161, 3) := by decide +kernel
theorem dX6_order_152 : decode cX6_order 152 = .ok (.aload_n 0, 1) := by decide +kernel
theorem dX6_order_153 : decode cX6_order 153 = .ok (.bipush 126, 2) := by decide +kernel
theorem dX6_order_155 : decode cX6_order 155 = .ok (.bipush 126, 2) := by decide +kernel
theorem dX6_order_157 : decode cX6_order 157 = .ok (.invokevirtual 145, 3) := by decide +kernel
theorem dX6_order_160 : decode cX6_order 160 = .ok (.istore_n 3, 1) := by decide +kernel
theorem dX6_order_161 : decode cX6_order 161 = .ok (.aload_n 0, 1) := by decide +kernel
theorem dX6_order_162 : decode cX6_order 162 = .ok (.bipush 45, 2) := by decide +kernel
theorem dX6_order_164 : decode cX6_order 164 = .ok (.bipush 45, 2) := by decide +kernel
theorem dX6_order_166 : decode cX6_order 166 = .ok (.invokevirtual 148, 3) := by decide +kernel
theorem dX6_order_169 : decode cX6_order 169 = .ok (.istore 4, 2) := by decide +kernel
theorem dX6_order_171 : decode cX6_order 171 = .ok (.iload 4, 2) := by decide +kernel
theorem dX6_order_173 : decode cX6_order 173 = .ok (.ifCond .eq 14, 3) := by decide +kernel
theorem dX6_order_176 : decode cX6_order 176 = .ok (.aload_n 0, 1) := by decide +kernel
theorem dX6_order_177 : decode cX6_order 177 = .ok (.bipush 45, 2) := by decide +kernel
theorem dX6_order_179 : decode cX6_order 179 = .ok (.bipush 45, 2) := by decide +kernel
theorem dX6_order_181 : decode cX6_order 181 = .ok (.invokevirtual 145, 3) := by decide +kernel
theorem dX6_order_184 : decode cX6_order 184 = .ok (.goto 4, 3) := by decide +kernel
theorem dX6_order_187 : decode cX6_order 187 = .ok (.iconst 0, 1) := by decide +kernel
theorem dX6_order_188 : decode cX6_order 188 = .ok (.istore_n 3, 1) := by decide +kernel
theorem dX6_order_189 : decode cX6_order 189 = .ok (.aload_n 0, 1) := by decide +kernel
theorem dX6_order_190 : decode cX6_order 190 = .ok (.iload 4, 2) := by decide +kernel
theorem dX6_order_192 : decode cX6_order 192 = .ok (.ifCond .eq 11, 3) := by decide +kernel
theorem dX6_order_195 : decode cX6_order 195 = .ok (.aload_n 0, 1) := by decide +kernel
theorem dX6_order_196 : decode cX6_order 196 = .ok (.invokevirtual 155, 3) := by decide +kernel
theorem dX6_order_199 : decode cX6_order 199 = .ok (.ineg, 1) := by decide +kernel
theorem dX6_order_200 : decode cX6_order 200 = .ok (.goto 7, 3) := by decide +kernel
theorem dX6_order_203 : decode cX6_order 203 = .ok (.aload_n 0, 1) := by decide +kernel
theorem dX6_order_204 : decode cX6_order 204 = .ok (.invokevirtual 155, 3) := by decide +kernel
theorem dX6_order_207 : decode cX6_order 207 = .ok (.putfield 164, 3) := by decide +kernel
theorem dX6_order_210 : decode cX6_order 210 = .ok (.aload_n 0, 1) := by decide +kernel
theorem dX6_order_211 : decode cX6_order 211 = .ok (.getfield 29, 3) := by decide +kernel
theorem dX6_order_214 : decode cX6_order 214 = .ok (.iconst 0, 1) := by decide +kernel
theorem dX6_order_215 : decode cX6_order 215 = .ok (.aload_n 0, 1) := by decide +kernel
theorem dX6_order_216 : decode cX6_order 216 = .ok (.getfield 158, 3) := by decide +kernel
theorem dX6_order_219 : decode cX6_order 219 = .ok (.iastore, 1) := by decide +kernel
theorem dX6_order_220 : decode cX6_order 220 = .ok (.aload_n 0, 1) := by decide +kernel
theorem dX6_order_221 : decode cX6_order 221 = .ok (.iconst 1, 1) := by decide +kernel
theorem dX6_order_222 : decode cX6_order 222 = .ok (.putfield 58, 3) := by decide +kernel
theorem dX6_order_225 : decode cX6_order 225 = .ok (.iload_n 1, 1) := by decide +kernel
theorem dX6_order_226 : decode cX6_order 226 = .ok (.bipush 98, 2) := by decide +kernel
theorem dX6_order_228 : decode cX6_order 228 = .ok (.if_icmp .ne 49, 3) := by decide +kernel
theorem dX6_order_231 : decode cX6_order 231 = .ok (.aload_n 0, 1) := by decide +kernel
theorem dX6_order_232 : decode cX6_order 232 = .ok (.bipush 44, 2) := by decide +kernel
theorem dX6_order_234 : decode cX6_order 234 = .ok (.bipush 44, 2) := by decide +kernel
theorem dX6_order_236 : decode cX6_order 236 = .ok (.invokevirtual 148, 3) := by decide +kernel
theorem dX6_order_239 : decode cX6_order 239 = .ok (.ifCond .eq 38, 3) := by decide +kernel
theorem dX6_order_242 : decode cX6_order 242 = .ok (.aload_n 0, 1) := by decide +kernel
theorem dX6_order_243 : decode cX6_order 243 = .ok (.bipush 44, 2) := by decide +kernel
theorem dX6_order_245 : decode cX6_order 245 = .ok (.bipush 44, 2) := by decide +kernel
theorem dX6_order_247 : decode cX6_order 247 = .ok (.invokevirtual 145, 3) := by decide +kernel
theorem dX6_order_250 : decode cX6_order 250 = .ok (.istore_n 3, 1) := by decide +kernel
theorem dX6_order_251 : decode cX6_order 251 = .ok (.aload_n 0, 1) := by decide +kernel
theorem dX6_order_252 : decode cX6_order 252 = .ok (.getfield 29, 3) := by decide +kernel
theorem dX6_order_255 : decode cX6_order 255 = .ok (.aload_n 0, 1) := by decide +kernel
theorem dX6_order_256 : decode cX6_order 256 = .ok (.getfield 58, 3) := by decide +kernel
theorem dX6_order_259 : decode cX6_order 259 = .ok (.aload_n 0, 1) := by decide +kernel
theorem dX6_order_260 : decode cX6_order 260 = .ok (.invokevirtual 155, 3) := by decide +kernel
theorem dX6_order_263 : decode cX6_order 263 = .ok (.iastore, 1) := by decide +kernel
theorem dX6_order_264 : decode cX6_order 264 = .ok (.aload_n 0, 1) := by decide +kernel
theorem dX6_order_265 : decode cX6_order 265 = .ok (.dup, 1) := by decide +kernel
theorem dX6_order_266 : decode cX6_order 266 = .ok (.getfield 58, 3) := by decide +kernel
theorem dX6_order_269 : decode cX6_order 269 = .ok (.iconst 1, 1) := by decide +kernel
theorem dX6_order_270 : decode cX6_order 270 = .ok (.iadd, 1) := by decide +kernel
theorem dX6_order_271 : decode cX6_order 271 = .ok (.putfield 58, 3) := by decide +kernel
theorem dX6_order_274 : decode cX6_order 274 = .ok (.goto (-49), 3) := by decide +kernel
theorem dX6_order_277 : decode cX6_order 277 = .ok (.return_, 1) := by decide +kernel
set_option maxRecDepth 20000 in
theorem ggX6_rowFault_X6_isClock : GoodIn wsX6_rowFault wsX6_isClock := goodIn_r _ [7, 8, 9, 10, 6, 11, 12, 13, 14, 15, 16, 17, 18, 19, 20, 21, 22, 23, 24, 25, 26, 27, 28] (by decide +kernel) (by decide +kernel)
set_option maxRecDepth 20000 in
theorem gX6_rowFault_X6_isClock : GoodIn wsX6_rowFault (wsV RX6 101 RX6 yX6_isClock wsX6_isClock) := goodIn_app (goodIn_of _ (by decide +kernel)) ggX6_rowFault_X6_isClock
theorem dX6_rowFault_0 : decode cX6_rowFault 0 = .ok (.iconst 0, 1) := by decide +kernel
theorem dX6_rowFault_1 : decode cX6_rowFault 1 = .ok (.istore_n 1, 1) := by decide +kernel
theorem dX6_rowFault_2 : decode cX6_rowFault 2 = .ok (.iconst 0, 1) := by decide +kernel
theorem dX6_rowFault_3 : decode cX6_rowFault 3 = .ok (.istore_n 2, 1) := by decide +kernel
theorem dX6_rowFault_4 : decode cX6_rowFault 4 = .ok (.iload_n 2, 1) := by decide +kernel
theorem dX6_rowFault_5 : decode cX6_rowFault 5 = .ok (.aload_n 0, 1) := by decide +kernel
theorem dX6_rowFault_6 : decode cX6_rowFault 6 = .ok (.getfield 58, 3) := by decide +kernel
theorem dX6_rowFault_9 : decode cX6_rowFault 9 = .ok (.if_icmp .ge 28, 3) := by decide +kernel
theorem dX6_rowFault_12 : decode cX6_rowFault 12 = .ok (.aload_n 0, 1) := by decide +kernel
theorem dX6_rowFault_13 : decode cX6_rowFault 13 = .ok (.aload_n 0, 1) := by decide +kernel
theorem dX6_rowFault_14 : decode cX6_rowFault 14 = .ok (.getfield 29, 3) := by decide +kernel
theorem dX6_rowFault_17 : decode cX6_rowFault 17 = .ok (.iload_n 2, 1) := by decide +kernel
theorem dX6_rowFault_18 : decode cX6_rowFault 18 = .ok (.iaload, 1) := by decide +kernel
theorem dX6_rowFault_19 : decode cX6_rowFault 19 = .ok (.invokevirtual 101, 3) := by decide +kernel
theorem dX6_rowFault_22 : decode cX6_rowFault 22 = .ok (.ifCond .eq 7, 3) := by decide +kernel
theorem dX6_rowFault_25 : decode cX6_rowFault 25 = .ok (.iload_n 1, 1) := by decide +kernel
theorem dX6_rowFault_26 : decode cX6_rowFault 26 = .ok (.goto 4, 3) := by decide +kernel
theorem dX6_rowFault_29 : decode cX6_rowFault 29 = .ok (.iconst (-1), 1) := by decide +kernel
theorem dX6_rowFault_30 : decode cX6_rowFault 30 = .ok (.istore_n 1, 1) := by decide +kernel
theorem dX6_rowFault_31 : decode cX6_rowFault 31 = .ok (.iinc 2 1, 3) := by decide +kernel
theorem dX6_rowFault_34 : decode cX6_rowFault 34 = .ok (.goto (-30), 3) := by decide +kernel
theorem dX6_rowFault_37 : decode cX6_rowFault 37 = .ok (.iload_n 1, 1) := by decide +kernel
theorem dX6_rowFault_38 : decode cX6_rowFault 38 = .ok (.ireturn, 1) := by decide +kernel
set_option maxRecDepth 20000 in
theorem ggX6_does_X6_hangFault : GoodIn wsX6_does wsX6_hangFault := goodIn_r _ [9, 10, 11, 12, 8, 13, 94, 95, 96, 97, 98, 99, 100, 101, 102, 103, 104, 105, 106, 107, 108, 109, 110] (by decide +kernel) (by decide +kernel)
set_option maxRecDepth 20000 in
theorem gX6_does_X6_hangFault : GoodIn wsX6_does (wsV RX6 88 RX6 yX6_hangFault wsX6_hangFault) := goodIn_app (goodIn_of _ (by decide +kernel)) ggX6_does_X6_hangFault
set_option maxRecDepth 20000 in
theorem ggX6_does_X6_ladderFault : GoodIn wsX6_does wsX6_ladderFault := goodIn_r _ [17, 10, 11, 12, 8, 13, 94, 95, 96, 97, 98, 99, 100, 101, 102, 103, 104, 105, 106, 107, 108, 109, 110] (by decide +kernel) (by decide +kernel)
set_option maxRecDepth 20000 in
theorem gX6_does_X6_ladderFault : GoodIn wsX6_does (wsV RX6 95 RX6 yX6_ladderFault wsX6_ladderFault) := goodIn_app (goodIn_of _ (by decide +kernel)) ggX6_does_X6_ladderFault
set_option maxRecDepth 20000 in
theorem ggX6_does_X6_rowFault : GoodIn wsX6_does wsX6_rowFault := goodIn_r _ [21, 22, 23, 24, 25, 26, 8, 27, 10, 11, 12, 13, 94, 95, 96, 97, 98, 99, 100, 101, 102, 103, 104, 105, 106, 107, 108, 109, 110] (by decide +kernel) (by decide +kernel)
set_option maxRecDepth 20000 in
theorem gX6_does_X6_rowFault : GoodIn wsX6_does (wsV RX6 167 RX6 yX6_rowFault wsX6_rowFault) := goodIn_app (goodIn_of _ (by decide +kernel)) ggX6_does_X6_rowFault
set_option maxRecDepth 20000 in
theorem ggX6_does_X6_passFault : GoodIn wsX6_does wsX6_passFault := goodIn_r _ [31, 10, 11, 12, 8, 13, 94, 95, 96, 97, 98, 99, 100, 101, 102, 103, 104, 105, 106, 107, 108, 109, 110] (by decide +kernel) (by decide +kernel)
set_option maxRecDepth 20000 in
theorem gX6_does_X6_passFault : GoodIn wsX6_does (wsV RX6 111 RX6 yX6_passFault wsX6_passFault) := goodIn_app (goodIn_of _ (by decide +kernel)) ggX6_does_X6_passFault
set_option maxRecDepth 20000 in
theorem ggX6_does_X6_hangs : GoodIn wsX6_does wsX6_hangs := goodIn_r _ [35, 10, 36, 37, 8, 38, 94, 95, 96, 97, 98, 99, 100, 101, 102, 103, 104, 105, 106, 107, 108, 109, 110] (by decide +kernel) (by decide +kernel)
set_option maxRecDepth 20000 in
theorem gX6_does_X6_hangs : GoodIn wsX6_does (wsV RX6 92 RX6 yX6_hangs wsX6_hangs) := goodIn_app (goodIn_of _ (by decide +kernel)) ggX6_does_X6_hangs
set_option maxRecDepth 20000 in
theorem ggX6_does_X6_buys : GoodIn wsX6_does wsX6_buys := goodIn_r _ [42, 10, 94, 95, 96, 97, 98, 99, 100, 101, 102, 103, 104, 105, 106, 107, 108, 109, 110] (by decide +kernel) (by decide +kernel)
set_option maxRecDepth 20000 in
theorem gX6_does_X6_buys : GoodIn wsX6_does (wsV RX6 98 RX6 yX6_buys wsX6_buys) := goodIn_app (goodIn_of _ (by decide +kernel)) ggX6_does_X6_buys
set_option maxRecDepth 20000 in
theorem ggX6_does_X6_goes : GoodIn wsX6_does wsX6_goes := goodIn_r _ [46, 22, 23, 10, 47, 48, 49, 8, 50, 51, 52, 53, 54, 36, 37, 38, 55, 56, 57, 58, 59, 60, 61, 62, 63, 64, 65, 66, 67, 68, 69, 70, 71, 72, 73, 11, 12, 13, 94, 95, 96, 97, 98, 99, 100, 101, 102, 103, 104, 105, 106, 107, 108, 109, 110] (by decide +kernel) (by decide +kernel)
set_option maxRecDepth 20000 in
theorem gX6_does_X6_goes : GoodIn wsX6_does (wsV RX6 108 RX6 yX6_goes wsX6_goes) := goodIn_app (goodIn_of _ (by decide +kernel)) ggX6_does_X6_goes
set_option maxRecDepth 20000 in
theorem ggX6_does_X6_passes : GoodIn wsX6_does wsX6_passes := goodIn_r _ [77, 10, 78, 79, 80, 8, 81, 82, 36, 37, 38, 70, 71, 72, 73, 83, 84, 85, 86, 87, 88, 89, 94, 95, 96, 97, 98, 99, 100, 101, 102, 103, 104, 105, 106, 107, 108, 109, 110] (by decide +kernel) (by decide +kernel)
set_option maxRecDepth 20000 in
theorem gX6_does_X6_passes : GoodIn wsX6_does (wsV RX6 114 RX6 yX6_passes wsX6_passes) := goodIn_app (goodIn_of _ (by decide +kernel)) ggX6_does_X6_passes
set_option maxRecDepth 20000 in
theorem ggX6_does_X6_changes : GoodIn wsX6_does wsX6_changes := goodIn_r _ [93, 10, 36, 37, 8, 38, 83, 84, 85, 86, 87, 88, 89, 94, 95, 96, 97, 98, 99, 100, 101, 102, 103, 104, 105, 106, 107, 108, 109, 110] (by decide +kernel) (by decide +kernel)
set_option maxRecDepth 20000 in
theorem gX6_does_X6_changes : GoodIn wsX6_does (wsV RX6 117 RX6 yX6_changes wsX6_changes) := goodIn_app (goodIn_of _ (by decide +kernel)) ggX6_does_X6_changes
theorem dX6_does_0 : decode cX6_does 0 = .ok (.aload_n 0, 1) := by decide +kernel
theorem dX6_does_1 : decode cX6_does 1 = .ok (.getfield 152, 3) := by decide +kernel
theorem dX6_does_4 : decode cX6_does 4 = .ok (.istore_n 1, 1) := by decide +kernel
theorem dX6_does_5 : decode cX6_does 5 = .ok (.iload_n 1, 1) := by decide +kernel
theorem dX6_does_6 : decode cX6_does 6 = .ok (.bipush 43, 2) := by decide +kernel
theorem dX6_does_8 : decode cX6_does 8 = .ok (.if_icmp .ne 22, 3) := by decide +kernel
theorem dX6_does_11 : decode cX6_does 11 = .ok (.aload_n 0, 1) := by decide +kernel
theorem dX6_does_12 : decode cX6_does 12 = .ok (.aload_n 0, 1) := by decide +kernel
theorem dX6_does_13 : decode cX6_does 13 = .ok (.getfield 158, 3) := by decide +kernel
theorem dX6_does_16 : decode cX6_does 16 = .ok (.aload_n 0, 1) := by decide +kernel
theorem dX6_does_17 : decode cX6_does 17 = .ok (.getfield 161, 3) := by decide +kernel
theorem dX6_does_20 : decode cX6_does 20 = .ok (.aload_n 0, 1) := by decide +kernel
theorem dX6_does_21 : decode cX6_does 21 = .ok (.getfield 164, 3) := by decide +kernel
theorem dX6_does_24 : decode cX6_does 24 = .ok (.invokevirtual 88, 3) := by decide +kernel
theorem dX6_does_27 : decode cX6_does 27 = .ok (.goto 51, 3) := by decide +kernel
theorem dX6_does_30 : decode cX6_does 30 = .ok (.iload_n 1, 1) := by decide +kernel
theorem dX6_does_31 : decode cX6_does 31 = .ok (.bipush 108, 2) := by decide +kernel
theorem dX6_does_33 : decode cX6_does 33 = .ok (.if_icmp .ne 14, 3) := by decide +kernel
theorem dX6_does_36 : decode cX6_does 36 = .ok (.aload_n 0, 1) := by decide +kernel
theorem dX6_does_37 : decode cX6_does 37 = .ok (.aload_n 0, 1) := by decide +kernel
theorem dX6_does_38 : decode cX6_does 38 = .ok (.getfield 158, 3) := by decide +kernel
theorem dX6_does_41 : decode cX6_does 41 = .ok (.invokevirtual 95, 3) := by decide +kernel
theorem dX6_does_44 : decode cX6_does 44 = .ok (.goto 34, 3) := by decide +kernel
theorem dX6_does_47 : decode cX6_does 47 = .ok (.iload_n 1, 1) := by decide +kernel
theorem dX6_does_48 : decode cX6_does 48 = .ok (.bipush 98, 2) := by decide +kernel
theorem dX6_does_50 : decode cX6_does 50 = .ok (.if_icmp .ne 10, 3) := by decide +kernel
theorem dX6_does_53 : decode cX6_does 53 = .ok (.aload_n 0, 1) := by decide +kernel
theorem dX6_does_54 : decode cX6_does 54 = .ok (.invokevirtual 167, 3) := by decide +kernel
theorem dX6_does_57 : decode cX6_does 57 = .ok (.goto 21, 3) := by decide +kernel
theorem dX6_does_60 : decode cX6_does 60 = .ok (.iload_n 1, 1) := by decide +kernel
theorem dX6_does_61 : decode cX6_does 61 = .ok (.bipush 116, 2) := by decide +kernel
theorem dX6_does_63 : decode cX6_does 63 = .ok (.if_icmp .ne 14, 3) := by decide +kernel
theorem dX6_does_66 : decode cX6_does 66 = .ok (.aload_n 0, 1) := by decide +kernel
theorem dX6_does_67 : decode cX6_does 67 = .ok (.aload_n 0, 1) := by decide +kernel
theorem dX6_does_68 : decode cX6_does 68 = .ok (.getfield 158, 3) := by decide +kernel
theorem dX6_does_71 : decode cX6_does 71 = .ok (.invokevirtual 111, 3) := by decide +kernel
theorem dX6_does_74 : decode cX6_does 74 = .ok (.goto 4, 3) := by decide +kernel
theorem dX6_does_77 : decode cX6_does 77 = .ok (.iconst 0, 1) := by decide +kernel
theorem dX6_does_78 : decode cX6_does 78 = .ok (.istore_n 2, 1) := by decide +kernel
theorem dX6_does_79 : decode cX6_does 79 = .ok (.iload_n 2, 1) := by decide +kernel
theorem dX6_does_80 : decode cX6_does 80 = .ok (.ifCond .ne 91, 3) := by decide +kernel
theorem dX6_does_83 : decode cX6_does 83 = .ok (.iload_n 1, 1) := by decide +kernel
theorem dX6_does_84 : decode cX6_does 84 = .ok (.bipush 43, 2) := by decide +kernel
theorem dX6_does_86 : decode cX6_does 86 = .ok (.if_icmp .ne 22, 3) := by decide +kernel
theorem dX6_does_89 : decode cX6_does 89 = .ok (.aload_n 0, 1) := by decide +kernel
theorem dX6_does_90 : decode cX6_does 90 = .ok (.aload_n 0, 1) := by decide +kernel
theorem dX6_does_91 : decode cX6_does 91 = .ok (.getfield 158, 3) := by decide +kernel
theorem dX6_does_94 : decode cX6_does 94 = .ok (.aload_n 0, 1) := by decide +kernel
theorem dX6_does_95 : decode cX6_does 95 = .ok (.getfield 161, 3) := by decide +kernel
theorem dX6_does_98 : decode cX6_does 98 = .ok (.aload_n 0, 1) := by decide +kernel
theorem dX6_does_99 : decode cX6_does 99 = .ok (.getfield 164, 3) := by decide +kernel
theorem dX6_does_102 : decode cX6_does 102 = .ok (.invokevirtual 92, 3) := by decide +kernel
theorem dX6_does_105 : decode cX6_does 105 = .ok (.goto 65, 3) := by decide +kernel
theorem dX6_does_108 : decode cX6_does 108 = .ok (.iload_n 1, 1) := by decide +kernel
theorem dX6_does_109 : decode cX6_does 109 = .ok (.bipush 108, 2) := by decide +kernel
theorem dX6_does_111 : decode cX6_does 111 = .ok (.if_icmp .ne 14, 3) := by decide +kernel
theorem dX6_does_114 : decode cX6_does 114 = .ok (.aload_n 0, 1) := by decide +kernel
theorem dX6_does_115 : decode cX6_does 115 = .ok (.aload_n 0, 1) := by decide +kernel
theorem dX6_does_116 : decode cX6_does 116 = .ok (.getfield 158, 3) := by decide +kernel
theorem dX6_does_119 : decode cX6_does 119 = .ok (.invokevirtual 98, 3) := by decide +kernel
theorem dX6_does_122 : decode cX6_does 122 = .ok (.goto 48, 3) := by decide +kernel
theorem dX6_does_125 : decode cX6_does 125 = .ok (.iload_n 1, 1) := by decide +kernel
theorem dX6_does_126 : decode cX6_does 126 = .ok (.bipush 98, 2) := by decide +kernel
theorem dX6_does_128 : decode cX6_does 128 = .ok (.if_icmp .ne 10, 3) := by decide +kernel
theorem dX6_does_131 : decode cX6_does 131 = .ok (.aload_n 0, 1) := by decide +kernel
theorem dX6_does_132 : decode cX6_does 132 = .ok (.invokevirtual 108, 3) := by decide +kernel
theorem dX6_does_135 : decode cX6_does 135 = .ok (.goto 35, 3) := by decide +kernel
theorem dX6_does_138 : decode cX6_does 138 = .ok (.iload_n 1, 1) := by decide +kernel
theorem dX6_does_139 : decode cX6_does 139 = .ok (.bipush 116, 2) := by decide +kernel
theorem dX6_does_141 : decode cX6_does 141 = .ok (.if_icmp .ne 14, 3) := by decide +kernel
theorem dX6_does_144 : decode cX6_does 144 = .ok (.aload_n 0, 1) := by decide +kernel
theorem dX6_does_145 : decode cX6_does 145 = .ok (.aload_n 0, 1) := by decide +kernel
theorem dX6_does_146 : decode cX6_does 146 = .ok (.getfield 158, 3) := by decide +kernel
theorem dX6_does_149 : decode cX6_does 149 = .ok (.invokevirtual 114, 3) := by decide +kernel
theorem dX6_does_152 : decode cX6_does 152 = .ok (.goto 18, 3) := by decide +kernel
theorem dX6_does_155 : decode cX6_does 155 = .ok (.aload_n 0, 1) := by decide +kernel
theorem dX6_does_156 : decode cX6_does 156 = .ok (.iload_n 1, 1) := by decide +kernel
theorem dX6_does_157 : decode cX6_does 157 = .ok (.bipush 97, 2) := by decide +kernel
theorem dX6_does_159 : decode cX6_does 159 = .ok (.if_icmp .ne 7, 3) := by decide +kernel
theorem dX6_does_162 : decode cX6_does 162 = .ok (.iconst 1, 1) := by decide +kernel
theorem dX6_does_163 : decode cX6_does 163 = .ok (.goto 4, 3) := by decide +kernel
theorem dX6_does_166 : decode cX6_does 166 = .ok (.iconst 0, 1) := by decide +kernel
theorem dX6_does_167 : decode cX6_does 167 = .ok (.invokevirtual 117, 3) := by decide +kernel
theorem dX6_does_170 : decode cX6_does 170 = .ok (.istore_n 3, 1) := by decide +kernel
theorem dX6_does_171 : decode cX6_does 171 = .ok (.iload_n 2, 1) := by decide +kernel
theorem dX6_does_172 : decode cX6_does 172 = .ok (.ifCond .ne 7, 3) := by decide +kernel
theorem dX6_does_175 : decode cX6_does 175 = .ok (.iconst 1, 1) := by decide +kernel
theorem dX6_does_176 : decode cX6_does 176 = .ok (.goto 4, 3) := by decide +kernel
theorem dX6_does_179 : decode cX6_does 179 = .ok (.iconst 0, 1) := by decide +kernel
theorem dX6_does_180 : decode cX6_does 180 = .ok (.ireturn, 1) := by decide +kernel
set_option maxRecDepth 20000 in
theorem ggX6_go_X6_order : GoodIn wsX6_go wsX6_order := goodIn_r _ [8, 1, 3, 9, 2, 10, 11, 12, 13, 14, 15, 16, 17, 18, 7, 19, 20, 21, 22, 23, 24, 25, 26, 27, 28, 29, 30, 118, 119, 120, 121, 122, 123, 124, 125, 126, 127, 128, 129, 130, 131, 132, 133, 134] (by decide +kernel) (by decide +kernel)
set_option maxRecDepth 20000 in
theorem gX6_go_X6_order : GoodIn wsX6_go (wsV RX6 170 RX6 yX6_order wsX6_order) := goodIn_app (goodIn_of _ (by decide +kernel)) ggX6_go_X6_order
set_option maxRecDepth 20000 in
theorem ggX6_go_X6_does : GoodIn wsX6_go wsX6_does := goodIn_r _ [34, 10, 11, 12, 13, 35, 36, 37, 7, 38, 39, 24, 25, 26, 40, 41, 42, 43, 44, 45, 46, 47, 15, 14, 48, 49, 50, 51, 52, 53, 54, 55, 56, 57, 58, 59, 60, 61, 62, 63, 64, 65, 66, 67, 68, 69, 70, 71, 72, 73, 74, 75, 76, 77, 78, 79, 80, 81, 82, 83, 84, 85, 86, 87, 88, 89, 90, 91, 92, 93, 94, 95, 96, 97, 98, 99, 100, 101, 102, 103, 104, 105, 106, 107, 108, 109, 110, 111, 112, 113, 114, 115, 116, 117, 118, 119, 120, 121, 122, 123, 124, 125, 126, 127, 128, 129, 130, 131, 132, 133, 134] (by decide +kernel) (by decide +kernel)
set_option maxRecDepth 20000 in
theorem gX6_go_X6_does : GoodIn wsX6_go (wsV RX6 173 RX6 yX6_does wsX6_does) := goodIn_app (goodIn_of _ (by decide +kernel)) ggX6_go_X6_does
set_option maxRecDepth 20000 in
theorem ggX6_go_X6_sign : GoodIn wsX6_go wsX6_sign := goodIn_r _ [23, 1, 3, 9, 2, 24, 25, 7, 26, 118, 119, 120, 121, 122, 123, 124, 125, 126, 127, 128, 129, 130, 131, 132, 133, 134] (by decide +kernel) (by decide +kernel)
set_option maxRecDepth 20000 in
theorem gX6_go_X6_sign : GoodIn wsX6_go (wsV RX6 145 RX6 yX6_sign wsX6_sign) := goodIn_app (goodIn_of _ (by decide +kernel)) ggX6_go_X6_sign
theorem dX6_go_0 : decode cX6_go 0 = .ok (.aload_n 0, 1) := by decide +kernel
theorem dX6_go_1 : decode cX6_go 1 = .ok (.iconst 0, 1) := by decide +kernel
theorem dX6_go_2 : decode cX6_go 2 = .ok (.putfield 138, 3) := by decide +kernel
theorem dX6_go_5 : decode cX6_go 5 = .ok (.aload_n 0, 1) := by decide +kernel
theorem dX6_go_6 : decode cX6_go 6 = .ok (.iconst 0, 1) := by decide +kernel
theorem dX6_go_7 : decode cX6_go 7 = .ok (.putfield 141, 3) := by decide +kernel
theorem dX6_go_10 : decode cX6_go 10 = .ok (.iconst 0, 1) := by decide +kernel
theorem dX6_go_11 : decode cX6_go 11 = .ok (.istore_n 2, 1) := by decide +kernel
theorem dX6_go_12 : decode cX6_go 12 = .ok (.iconst 1, 1) := by decide +kernel
theorem dX6_go_13 : decode cX6_go 13 = .ok (.istore_n 3, 1) := by decide +kernel
theorem dX6_go_14 : decode cX6_go 14 = .ok (.iload_n 3, 1) := by decide +kernel
theorem dX6_go_15 : decode cX6_go 15 = .ok (.ifCond .eq 101, 3) := by decide +kernel
theorem dX6_go_18 : decode cX6_go 18 = .ok (.aload_n 0, 1) := by decide +kernel
theorem dX6_go_19 : decode cX6_go 19 = .ok (.invokevirtual 170, 3) := by decide +kernel
theorem dX6_go_22 : decode cX6_go 22 = .ok (.iload_n 1, 1) := by decide +kernel
theorem dX6_go_23 : decode cX6_go 23 = .ok (.ifCond .eq 14, 3) := by decide +kernel
theorem dX6_go_26 : decode cX6_go 26 = .ok (.aload_n 0, 1) := by decide +kernel
theorem dX6_go_27 : decode cX6_go 27 = .ok (.invokevirtual 173, 3) := by decide +kernel
theorem dX6_go_30 : decode cX6_go 30 = .ok (.ifCond .eq 7, 3) := by decide +kernel
theorem dX6_go_33 : decode cX6_go 33 = .ok (.iconst 1, 1) := by decide +kernel
theorem dX6_go_34 : decode cX6_go 34 = .ok (.goto 4, 3) := by decide +kernel
theorem dX6_go_37 : decode cX6_go 37 = .ok (.iconst 0, 1) := by decide +kernel
theorem dX6_go_38 : decode cX6_go 38 = .ok (.istore 4, 2) := by decide +kernel
theorem dX6_go_40 : decode cX6_go 40 = .ok (.iload_n 2, 1) := by decide +kernel
theorem dX6_go_41 : decode cX6_go 41 = .ok (.iload 4, 2) := by decide +kernel
theorem dX6_go_43 : decode cX6_go 43 = .ok (.ifCond .eq 7, 3) := by decide +kernel
theorem dX6_go_46 : decode cX6_go 46 = .ok (.iconst 1, 1) := by decide +kernel
theorem dX6_go_47 : decode cX6_go 47 = .ok (.goto 4, 3) := by decide +kernel
theorem dX6_go_50 : decode cX6_go 50 = .ok (.iconst 0, 1) := by decide +kernel
theorem dX6_go_51 : decode cX6_go 51 = .ok (.iadd, 1) := by decide +kernel
theorem dX6_go_52 : decode cX6_go 52 = .ok (.istore_n 2, 1) := by decide +kernel
theorem dX6_go_53 : decode cX6_go 53 = .ok (.aload_n 0, 1) := by decide +kernel
theorem dX6_go_54 : decode cX6_go 54 = .ok (.getfield 141, 3) := by decide +kernel
theorem dX6_go_57 : decode cX6_go 57 = .ok (.ifCond .ne 27, 3) := by decide +kernel
theorem dX6_go_60 : decode cX6_go 60 = .ok (.iload 4, 2) := by decide +kernel
theorem dX6_go_62 : decode cX6_go 62 = .ok (.ifCond .ne 7, 3) := by decide +kernel
theorem dX6_go_65 : decode cX6_go 65 = .ok (.iload_n 1, 1) := by decide +kernel
theorem dX6_go_66 : decode cX6_go 66 = .ok (.ifCond .ne 18, 3) := by decide +kernel
theorem dX6_go_69 : decode cX6_go 69 = .ok (.aload_n 0, 1) := by decide +kernel
theorem dX6_go_70 : decode cX6_go 70 = .ok (.getfield 138, 3) := by decide +kernel
theorem dX6_go_73 : decode cX6_go 73 = .ok (.aload_n 0, 1) := by decide +kernel
theorem dX6_go_74 : decode cX6_go 74 = .ok (.getfield 127, 3) := by decide +kernel
theorem dX6_go_77 : decode cX6_go 77 = .ok (.if_icmp .ge 7, 3) := by decide +kernel
theorem dX6_go_80 : decode cX6_go 80 = .ok (.iconst 1, 1) := by decide +kernel
theorem dX6_go_81 : decode cX6_go 81 = .ok (.goto 4, 3) := by decide +kernel
theorem dX6_go_84 : decode cX6_go 84 = .ok (.iconst 0, 1) := by decide +kernel
theorem dX6_go_85 : decode cX6_go 85 = .ok (.istore_n 3, 1) := by decide +kernel
theorem dX6_go_86 : decode cX6_go 86 = .ok (.iload_n 3, 1) := by decide +kernel
theorem dX6_go_87 : decode cX6_go 87 = .ok (.ifCond .eq 26, 3) := by decide +kernel
theorem dX6_go_90 : decode cX6_go 90 = .ok (.aload_n 0, 1) := by decide +kernel
theorem dX6_go_91 : decode cX6_go 91 = .ok (.bipush 59, 2) := by decide +kernel
theorem dX6_go_93 : decode cX6_go 93 = .ok (.bipush 59, 2) := by decide +kernel
theorem dX6_go_95 : decode cX6_go 95 = .ok (.invokevirtual 145, 3) := by decide +kernel
theorem dX6_go_98 : decode cX6_go 98 = .ok (.istore 5, 2) := by decide +kernel
theorem dX6_go_100 : decode cX6_go 100 = .ok (.aload_n 0, 1) := by decide +kernel
theorem dX6_go_101 : decode cX6_go 101 = .ok (.getfield 141, 3) := by decide +kernel
theorem dX6_go_104 : decode cX6_go 104 = .ok (.ifCond .ne 7, 3) := by decide +kernel
theorem dX6_go_107 : decode cX6_go 107 = .ok (.iconst 1, 1) := by decide +kernel
theorem dX6_go_108 : decode cX6_go 108 = .ok (.goto 4, 3) := by decide +kernel
theorem dX6_go_111 : decode cX6_go 111 = .ok (.iconst 0, 1) := by decide +kernel
theorem dX6_go_112 : decode cX6_go 112 = .ok (.istore_n 3, 1) := by decide +kernel
theorem dX6_go_113 : decode cX6_go 113 = .ok (.goto (-99), 3) := by decide +kernel
theorem dX6_go_116 : decode cX6_go 116 = .ok (.iload_n 2, 1) := by decide +kernel
theorem dX6_go_117 : decode cX6_go 117 = .ok (.ireturn, 1) := by decide +kernel
set_option maxRecDepth 20000 in
theorem ggX6_fault_X6_go : GoodIn wsX6_fault wsX6_go := goodIn_r _ [7, 2, 1, 8, 9, 10, 11, 6, 12, 13, 14, 15, 16, 17, 18, 19, 20, 21, 22, 23, 24, 25, 26, 27, 28, 29, 30, 31, 32, 33, 34, 35, 36, 37, 38, 39, 40, 41, 42, 43, 44, 45, 46, 47, 48, 49, 50, 51, 52, 53, 54, 55, 56, 57, 58, 59, 60, 61, 62, 63, 64, 65, 66, 67, 68, 69, 70, 71, 72, 73, 74, 75, 76, 77, 78, 79, 80, 81, 82, 83, 84, 85, 86, 87, 88, 89, 90, 91, 92, 93, 94, 95, 96, 97, 98, 99, 100, 101, 102, 103, 104, 105, 106, 107, 108, 109, 110, 111, 112, 113, 114, 115, 116, 117, 118, 119, 120, 121, 122, 123, 124, 125, 126, 127, 128, 129, 130, 131, 132, 133, 134, 135, 136, 137, 138] (by decide +kernel) (by decide +kernel)
set_option maxRecDepth 20000 in
theorem gX6_fault_X6_go : GoodIn wsX6_fault (wsV RX6 177 RX6 yX6_go wsX6_go) := goodIn_app (goodIn_of _ (by decide +kernel)) ggX6_fault_X6_go
theorem dX6_fault_0 : decode cX6_fault 0 = .ok (.aload_n 0, 1) := by decide +kernel
theorem dX6_fault_1 : decode cX6_fault 1 = .ok (.iconst 0, 1) := by decide +kernel
theorem dX6_fault_2 : decode cX6_fault 2 = .ok (.invokevirtual 177, 3) := by decide +kernel
theorem dX6_fault_5 : decode cX6_fault 5 = .ok (.istore_n 1, 1) := by decide +kernel
theorem dX6_fault_6 : decode cX6_fault 6 = .ok (.aload_n 0, 1) := by decide +kernel
theorem dX6_fault_7 : decode cX6_fault 7 = .ok (.getfield 141, 3) := by decide +kernel
theorem dX6_fault_10 : decode cX6_fault 10 = .ok (.ifCond .eq 10, 3) := by decide +kernel
theorem dX6_fault_13 : decode cX6_fault 13 = .ok (.aload_n 0, 1) := by decide +kernel
theorem dX6_fault_14 : decode cX6_fault 14 = .ok (.getfield 138, 3) := by decide +kernel
theorem dX6_fault_17 : decode cX6_fault 17 = .ok (.goto 5, 3) := by decide +kernel
theorem dX6_fault_20 : decode cX6_fault 20 = .ok (.bipush (-6), 2) := by decide +kernel
theorem dX6_fault_22 : decode cX6_fault 22 = .ok (.ireturn, 1) := by decide +kernel
set_option maxRecDepth 20000 in
theorem ggX6_carryOut_X6_go : GoodIn wsX6_carryOut wsX6_go := goodIn_r _ [7, 8, 1, 2, 9, 10, 11, 6, 12, 13, 14, 15, 16, 17, 18, 19, 20, 21, 22, 23, 24, 25, 26, 27, 28, 29, 30, 31, 32, 33, 34, 35, 36, 37, 38, 39, 40, 41, 42, 43, 44, 45, 46, 47, 48, 49, 50, 51, 52, 53, 54, 55, 56, 57, 58, 59, 60, 61, 62, 63, 64, 65, 66, 67, 68, 69, 70, 71, 72, 73, 74, 75, 76, 77, 78, 79, 80, 81, 82, 83, 84, 85, 86, 87, 88, 89, 90, 91, 92, 93, 94, 95, 96, 97, 98, 99, 100, 101, 102, 103, 104, 105, 106, 107, 108, 109, 110, 111, 112, 113, 114, 115, 116, 117, 118, 119, 120, 121, 128, 129, 130, 131, 132, 133, 134, 135, 136, 137, 138, 139, 140, 141, 142, 143, 144] (by decide +kernel) (by decide +kernel)
set_option maxRecDepth 20000 in
theorem gX6_carryOut_X6_go : GoodIn wsX6_carryOut (wsV RX6 177 RX6 yX6_go wsX6_go) := goodIn_app (goodIn_of _ (by decide +kernel)) ggX6_carryOut_X6_go
set_option maxRecDepth 20000 in
theorem ggX6_carryOut_X6_know : GoodIn wsX6_carryOut wsX6_know := goodIn_r _ [125, 126, 127, 43, 128, 129, 130, 131, 132, 133, 134, 135, 136, 137, 138, 139, 140, 141, 142, 143, 144] (by decide +kernel) (by decide +kernel)
set_option maxRecDepth 20000 in
theorem gX6_carryOut_X6_know : GoodIn wsX6_carryOut (wsV RX6 85 RX6 yX6_know wsX6_know) := goodIn_app (goodIn_of _ (by decide +kernel)) ggX6_carryOut_X6_know
theorem dX6_carryOut_0 : decode cX6_carryOut 0 = .ok (.aload_n 0, 1) := by decide +kernel
theorem dX6_carryOut_1 : decode cX6_carryOut 1 = .ok (.iconst 0, 1) := by decide +kernel
theorem dX6_carryOut_2 : decode cX6_carryOut 2 = .ok (.invokevirtual 177, 3) := by decide +kernel
theorem dX6_carryOut_5 : decode cX6_carryOut 5 = .ok (.istore_n 1, 1) := by decide +kernel
theorem dX6_carryOut_6 : decode cX6_carryOut 6 = .ok (.aload_n 0, 1) := by decide +kernel
theorem dX6_carryOut_7 : decode cX6_carryOut 7 = .ok (.getfield 141, 3) := by decide +kernel
theorem dX6_carryOut_10 : decode cX6_carryOut 10 = .ok (.ifCond .eq 6, 3) := by decide +kernel
theorem dX6_carryOut_13 : decode cX6_carryOut 13 = .ok (.bipush (-3), 2) := by decide +kernel
theorem dX6_carryOut_15 : decode cX6_carryOut 15 = .ok (.ireturn, 1) := by decide +kernel
theorem dX6_carryOut_16 : decode cX6_carryOut 16 = .ok (.aload_n 0, 1) := by decide +kernel
theorem dX6_carryOut_17 : decode cX6_carryOut 17 = .ok (.invokevirtual 85, 3) := by decide +kernel
theorem dX6_carryOut_20 : decode cX6_carryOut 20 = .ok (.aload_n 0, 1) := by decide +kernel
theorem dX6_carryOut_21 : decode cX6_carryOut 21 = .ok (.iconst 1, 1) := by decide +kernel
theorem dX6_carryOut_22 : decode cX6_carryOut 22 = .ok (.invokevirtual 177, 3) := by decide +kernel
theorem dX6_carryOut_25 : decode cX6_carryOut 25 = .ok (.istore_n 2, 1) := by decide +kernel
theorem dX6_carryOut_26 : decode cX6_carryOut 26 = .ok (.aload_n 0, 1) := by decide +kernel
theorem dX6_carryOut_27 : decode cX6_carryOut 27 = .ok (.iconst 0, 1) := by decide +kernel
theorem dX6_carryOut_28 : decode cX6_carryOut 28 = .ok (.putfield 127, 3) := by decide +kernel
theorem dX6_carryOut_31 : decode cX6_carryOut 31 = .ok (.iload_n 2, 1) := by decide +kernel
theorem dX6_carryOut_32 : decode cX6_carryOut 32 = .ok (.ireturn, 1) := by decide +kernel
theorem dX6_undo_0 : decode cX6_undo 0 = .ok (.aload_n 0, 1) := by decide +kernel
theorem dX6_undo_1 : decode cX6_undo 1 = .ok (.getfield 39, 3) := by decide +kernel
theorem dX6_undo_4 : decode cX6_undo 4 = .ok (.ifCond .ne 6, 3) := by decide +kernel
theorem dX6_undo_7 : decode cX6_undo 7 = .ok (.bipush (-5), 2) := by decide +kernel
theorem dX6_undo_9 : decode cX6_undo 9 = .ok (.ireturn, 1) := by decide +kernel
theorem dX6_undo_10 : decode cX6_undo 10 = .ok (.aload_n 0, 1) := by decide +kernel
theorem dX6_undo_11 : decode cX6_undo 11 = .ok (.dup, 1) := by decide +kernel
theorem dX6_undo_12 : decode cX6_undo 12 = .ok (.getfield 39, 3) := by decide +kernel
theorem dX6_undo_15 : decode cX6_undo 15 = .ok (.iconst 1, 1) := by decide +kernel
theorem dX6_undo_16 : decode cX6_undo 16 = .ok (.isub, 1) := by decide +kernel
theorem dX6_undo_17 : decode cX6_undo 17 = .ok (.putfield 39, 3) := by decide +kernel
theorem dX6_undo_20 : decode cX6_undo 20 = .ok (.iconst 0, 1) := by decide +kernel
theorem dX6_undo_21 : decode cX6_undo 21 = .ok (.istore_n 1, 1) := by decide +kernel
theorem dX6_undo_22 : decode cX6_undo 22 = .ok (.iload_n 1, 1) := by decide +kernel
theorem dX6_undo_23 : decode cX6_undo 23 = .ok (.sipush 140, 3) := by decide +kernel
theorem dX6_undo_26 : decode cX6_undo 26 = .ok (.if_icmp .ge 30, 3) := by decide +kernel
theorem dX6_undo_29 : decode cX6_undo 29 = .ok (.aload_n 0, 1) := by decide +kernel
theorem dX6_undo_30 : decode cX6_undo 30 = .ok (.getfield 7, 3) := by decide +kernel
theorem dX6_undo_33 : decode cX6_undo 33 = .ok (.iload_n 1, 1) := by decide +kernel
theorem dX6_undo_34 : decode cX6_undo 34 = .ok (.aload_n 0, 1) := by decide +kernel
theorem dX6_undo_35 : decode cX6_undo 35 = .ok (.getfield 16, 3) := by decide +kernel
theorem dX6_undo_38 : decode cX6_undo 38 = .ok (.sipush 140, 3) := by decide +kernel
theorem dX6_undo_41 : decode cX6_undo 41 = .ok (.aload_n 0, 1) := by decide +kernel
theorem dX6_undo_42 : decode cX6_undo 42 = .ok (.getfield 39, 3) := by decide +kernel
theorem dX6_undo_45 : decode cX6_undo 45 = .ok (.imul, 1) := by decide +kernel
theorem dX6_undo_46 : decode cX6_undo 46 = .ok (.iload_n 1, 1) := by decide +kernel
theorem dX6_undo_47 : decode cX6_undo 47 = .ok (.iadd, 1) := by decide +kernel
theorem dX6_undo_48 : decode cX6_undo 48 = .ok (.iaload, 1) := by decide +kernel
theorem dX6_undo_49 : decode cX6_undo 49 = .ok (.iastore, 1) := by decide +kernel
theorem dX6_undo_50 : decode cX6_undo 50 = .ok (.iinc 1 1, 3) := by decide +kernel
theorem dX6_undo_53 : decode cX6_undo 53 = .ok (.goto (-31), 3) := by decide +kernel
theorem dX6_undo_56 : decode cX6_undo 56 = .ok (.aload_n 0, 1) := by decide +kernel
theorem dX6_undo_57 : decode cX6_undo 57 = .ok (.getfield 39, 3) := by decide +kernel
theorem dX6_undo_60 : decode cX6_undo 60 = .ok (.ireturn, 1) := by decide +kernel
set_option maxRecDepth 20000 in
theorem ggX6_save_X6_in : GoodIn wsX6_save wsX6_in := goodIn_r _ [7] (by decide +kernel) (by decide +kernel)
set_option maxRecDepth 20000 in
theorem gX6_save_X6_in : GoodIn wsX6_save (va_wsS RX6 35 yX6_in wsX6_in) := goodIn_app (goodIn_of _ (by decide +kernel)) ggX6_save_X6_in
theorem dX6_save_0 : decode cX6_save 0 = .ok (.iload_n 1, 1) := by decide +kernel
theorem dX6_save_1 : decode cX6_save 1 = .ok (.iconst 0, 1) := by decide +kernel
theorem dX6_save_2 : decode cX6_save 2 = .ok (.iconst 1, 1) := by decide +kernel
theorem dX6_save_3 : decode cX6_save 3 = .ok (.invokestatic 35, 3) := by decide +kernel
theorem dX6_save_6 : decode cX6_save 6 = .ok (.ifCond .ne 6, 3) := by decide +kernel
theorem dX6_save_9 : decode cX6_save 9 = .ok (.bipush (-2), 2) := by decide +kernel
theorem dX6_save_11 : decode cX6_save 11 = .ok (.ireturn, 1) := by decide +kernel
theorem dX6_save_12 : decode cX6_save 12 = .ok (.iconst 0, 1) := by decide +kernel
theorem dX6_save_13 : decode cX6_save 13 = .ok (.istore_n 2, 1) := by decide +kernel
theorem dX6_save_14 : decode cX6_save 14 = .ok (.iload_n 2, 1) := by decide +kernel
theorem dX6_save_15 : decode cX6_save 15 = .ok (.sipush 140, 3) := by decide +kernel
theorem dX6_save_18 : decode cX6_save 18 = .ok (.if_icmp .ge 27, 3) := by decide +kernel
theorem dX6_save_21 : decode cX6_save 21 = .ok (.aload_n 0, 1) := by decide +kernel
theorem dX6_save_22 : decode cX6_save 22 = .ok (.getfield 19, 3) := by decide +kernel
theorem dX6_save_25 : decode cX6_save 25 = .ok (.sipush 140, 3) := by decide +kernel
theorem dX6_save_28 : decode cX6_save 28 = .ok (.iload_n 1, 1) := by decide +kernel
theorem dX6_save_29 : decode cX6_save 29 = .ok (.imul, 1) := by decide +kernel
theorem dX6_save_30 : decode cX6_save 30 = .ok (.iload_n 2, 1) := by decide +kernel
theorem dX6_save_31 : decode cX6_save 31 = .ok (.iadd, 1) := by decide +kernel
theorem dX6_save_32 : decode cX6_save 32 = .ok (.aload_n 0, 1) := by decide +kernel
theorem dX6_save_33 : decode cX6_save 33 = .ok (.getfield 7, 3) := by decide +kernel
theorem dX6_save_36 : decode cX6_save 36 = .ok (.iload_n 2, 1) := by decide +kernel
theorem dX6_save_37 : decode cX6_save 37 = .ok (.iaload, 1) := by decide +kernel
theorem dX6_save_38 : decode cX6_save 38 = .ok (.iastore, 1) := by decide +kernel
theorem dX6_save_39 : decode cX6_save 39 = .ok (.iinc 2 1, 3) := by decide +kernel
theorem dX6_save_42 : decode cX6_save 42 = .ok (.goto (-28), 3) := by decide +kernel
theorem dX6_save_45 : decode cX6_save 45 = .ok (.aload_n 0, 1) := by decide +kernel
theorem dX6_save_46 : decode cX6_save 46 = .ok (.getfield 22, 3) := by decide +kernel
theorem dX6_save_49 : decode cX6_save 49 = .ok (.iload_n 1, 1) := by decide +kernel
theorem dX6_save_50 : decode cX6_save 50 = .ok (.iconst 1, 1) := by decide +kernel
theorem dX6_save_51 : decode cX6_save 51 = .ok (.bastore, 1) := by decide +kernel
theorem dX6_save_52 : decode cX6_save 52 = .ok (.aload_n 0, 1) := by decide +kernel
theorem dX6_save_53 : decode cX6_save 53 = .ok (.getfield 7, 3) := by decide +kernel
theorem dX6_save_56 : decode cX6_save 56 = .ok (.iconst 5, 1) := by decide +kernel
theorem dX6_save_57 : decode cX6_save 57 = .ok (.iaload, 1) := by decide +kernel
theorem dX6_save_58 : decode cX6_save 58 = .ok (.ireturn, 1) := by decide +kernel
set_option maxRecDepth 20000 in
theorem ggX6_restore_X6_in : GoodIn wsX6_restore wsX6_in := goodIn_r _ [7] (by decide +kernel) (by decide +kernel)
set_option maxRecDepth 20000 in
theorem gX6_restore_X6_in : GoodIn wsX6_restore (va_wsS RX6 35 yX6_in wsX6_in) := goodIn_app (goodIn_of _ (by decide +kernel)) ggX6_restore_X6_in
set_option maxRecDepth 20000 in
theorem ggX6_restore_X6_know : GoodIn wsX6_restore wsX6_know := goodIn_r _ [11, 12, 13, 2, 14, 15, 16, 17, 18, 19, 20, 21, 22, 23, 24, 25, 26, 27, 28, 29, 30] (by decide +kernel) (by decide +kernel)
set_option maxRecDepth 20000 in
theorem gX6_restore_X6_know : GoodIn wsX6_restore (wsV RX6 85 RX6 yX6_know wsX6_know) := goodIn_app (goodIn_of _ (by decide +kernel)) ggX6_restore_X6_know
theorem dX6_restore_0 : decode cX6_restore 0 = .ok (.iload_n 1, 1) := by decide +kernel
theorem dX6_restore_1 : decode cX6_restore 1 = .ok (.iconst 0, 1) := by decide +kernel
theorem dX6_restore_2 : decode cX6_restore 2 = .ok (.iconst 1, 1) := by decide +kernel
theorem dX6_restore_3 : decode cX6_restore 3 = .ok (.invokestatic 35, 3) := by decide +kernel
theorem dX6_restore_6 : decode cX6_restore 6 = .ok (.ifCond .ne 6, 3) := by decide +kernel
theorem dX6_restore_9 : decode cX6_restore 9 = .ok (.bipush (-2), 2) := by decide +kernel
theorem dX6_restore_11 : decode cX6_restore 11 = .ok (.ireturn, 1) := by decide +kernel
theorem dX6_restore_12 : decode cX6_restore 12 = .ok (.aload_n 0, 1) := by decide +kernel
theorem dX6_restore_13 : decode cX6_restore 13 = .ok (.getfield 22, 3) := by decide +kernel
theorem dX6_restore_16 : decode cX6_restore 16 = .ok (.iload_n 1, 1) := by decide +kernel
theorem dX6_restore_17 : decode cX6_restore 17 = .ok (.baload, 1) := by decide +kernel
theorem dX6_restore_18 : decode cX6_restore 18 = .ok (.ifCond .ne 6, 3) := by decide +kernel
theorem dX6_restore_21 : decode cX6_restore 21 = .ok (.bipush (-5), 2) := by decide +kernel
theorem dX6_restore_23 : decode cX6_restore 23 = .ok (.ireturn, 1) := by decide +kernel
theorem dX6_restore_24 : decode cX6_restore 24 = .ok (.aload_n 0, 1) := by decide +kernel
theorem dX6_restore_25 : decode cX6_restore 25 = .ok (.invokevirtual 85, 3) := by decide +kernel
theorem dX6_restore_28 : decode cX6_restore 28 = .ok (.iconst 0, 1) := by decide +kernel
theorem dX6_restore_29 : decode cX6_restore 29 = .ok (.istore_n 2, 1) := by decide +kernel
theorem dX6_restore_30 : decode cX6_restore 30 = .ok (.iload_n 2, 1) := by decide +kernel
theorem dX6_restore_31 : decode cX6_restore 31 = .ok (.sipush 140, 3) := by decide +kernel
theorem dX6_restore_34 : decode cX6_restore 34 = .ok (.if_icmp .ge 27, 3) := by decide +kernel
theorem dX6_restore_37 : decode cX6_restore 37 = .ok (.aload_n 0, 1) := by decide +kernel
theorem dX6_restore_38 : decode cX6_restore 38 = .ok (.getfield 7, 3) := by decide +kernel
theorem dX6_restore_41 : decode cX6_restore 41 = .ok (.iload_n 2, 1) := by decide +kernel
theorem dX6_restore_42 : decode cX6_restore 42 = .ok (.aload_n 0, 1) := by decide +kernel
theorem dX6_restore_43 : decode cX6_restore 43 = .ok (.getfield 19, 3) := by decide +kernel
theorem dX6_restore_46 : decode cX6_restore 46 = .ok (.sipush 140, 3) := by decide +kernel
theorem dX6_restore_49 : decode cX6_restore 49 = .ok (.iload_n 1, 1) := by decide +kernel
theorem dX6_restore_50 : decode cX6_restore 50 = .ok (.imul, 1) := by decide +kernel
theorem dX6_restore_51 : decode cX6_restore 51 = .ok (.iload_n 2, 1) := by decide +kernel
theorem dX6_restore_52 : decode cX6_restore 52 = .ok (.iadd, 1) := by decide +kernel
theorem dX6_restore_53 : decode cX6_restore 53 = .ok (.iaload, 1) := by decide +kernel
theorem dX6_restore_54 : decode cX6_restore 54 = .ok (.iastore, 1) := by decide +kernel
theorem dX6_restore_55 : decode cX6_restore 55 = .ok (.iinc 2 1, 3) := by decide +kernel
theorem dX6_restore_58 : decode cX6_restore 58 = .ok (.goto (-28), 3) := by decide +kernel
theorem dX6_restore_61 : decode cX6_restore 61 = .ok (.aload_n 0, 1) := by decide +kernel
theorem dX6_restore_62 : decode cX6_restore 62 = .ok (.getfield 7, 3) := by decide +kernel
theorem dX6_restore_65 : decode cX6_restore 65 = .ok (.iconst 5, 1) := by decide +kernel
theorem dX6_restore_66 : decode cX6_restore 66 = .ok (.iaload, 1) := by decide +kernel
theorem dX6_restore_67 : decode cX6_restore 67 = .ok (.ireturn, 1) := by decide +kernel
theorem dJ9_abs_0f7a4_0 : decode cJ9_abs_0f7a4 0 = .ok (.iload_n 0, 1) := by decide +kernel
theorem dJ9_abs_0f7a4_1 : decode cJ9_abs_0f7a4 1 = .ok (.ifCond .ge 8, 3) := by decide +kernel
theorem dJ9_abs_0f7a4_4 : decode cJ9_abs_0f7a4 4 = .ok (.iload_n 0, 1) := by decide +kernel
theorem dJ9_abs_0f7a4_5 : decode cJ9_abs_0f7a4 5 = .ok (.ineg, 1) := by decide +kernel
theorem dJ9_abs_0f7a4_6 : decode cJ9_abs_0f7a4 6 = .ok (.goto 4, 3) := by decide +kernel
theorem dJ9_abs_0f7a4_9 : decode cJ9_abs_0f7a4 9 = .ok (.iload_n 0, 1) := by decide +kernel
theorem dJ9_abs_0f7a4_10 : decode cJ9_abs_0f7a4 10 = .ok (.ireturn, 1) := by decide +kernel
theorem dJ9_max_7cf53_0 : decode cJ9_max_7cf53 0 = .ok (.iload_n 0, 1) := by decide +kernel
theorem dJ9_max_7cf53_1 : decode cJ9_max_7cf53 1 = .ok (.iload_n 1, 1) := by decide +kernel
theorem dJ9_max_7cf53_2 : decode cJ9_max_7cf53 2 = .ok (.if_icmp .lt 7, 3) := by decide +kernel
theorem dJ9_max_7cf53_5 : decode cJ9_max_7cf53 5 = .ok (.iload_n 0, 1) := by decide +kernel
theorem dJ9_max_7cf53_6 : decode cJ9_max_7cf53 6 = .ok (.goto 4, 3) := by decide +kernel
theorem dJ9_max_7cf53_9 : decode cJ9_max_7cf53 9 = .ok (.iload_n 1, 1) := by decide +kernel
theorem dJ9_max_7cf53_10 : decode cJ9_max_7cf53 10 = .ok (.ireturn, 1) := by decide +kernel
end
section
abbrev vwCl : List vw_C := [(RX0, TX0, 8), (RX1, TX1, 2), (RX2, TX2, 5), (RX3, TX3, 2), (RX4, TX4, 7), (RX5, TX5, 6), (RX6, TX6, 17)]
/-! the worlds: the model's nine cells by one table of numbers M (M k j: the k-th field, place j) -/
abbrev MS : Type := Nat → Nat → Int32
def mset (M : MS) (k j : Nat) (x : Int32) : MS := fun a b => if a = k ∧ b = j then x else M a b
theorem mset_row (M : MS) (k j : Nat) (x : Int32) : mset M k j x k = upd (M k) j x := by
  funext b; simp [mset, upd]
theorem mset_ne (M : MS) {k a : Nat} (h : a ≠ k) (j : Nat) (x : Int32) : mset M k j x a = M a := by
  funext b; simp [mset, h]
theorem mset_eq (M : MS) (k j : Nat) (x : Int32) : mset M k j x k j = x := by simp [mset]
theorem mset_nj (M : MS) {k j b : Nat} (h : b ≠ j) (x : Int32) (a : Nat) : mset M k j x a b = M a b := by simp [mset, h]
theorem mset_nk (M : MS) {k a : Nat} (h : a ≠ k) (j b : Nat) (x : Int32) : mset M k j x a b = M a b := by simp [mset, h]
abbrev tysW (g : Nat → ClassId) : List (ClassId × FieldType) := [(g 0, .int), (g 1, .char), (g 2, .boolean), (g 3, .object "WinderLadders$Clock"), (g 4, .object "WinderLadders$State")]
def mFs (q : Nat → Nat) (M : MS) : List Value := [.ref (q 1), .ref (q 2), .ref (q 3), .int (M 3 0), .ref (q 4), .ref (q 5), .ref (q 6), .int (M 7 0), .ref (q 7), .int (M 9 0), .ref (q 8), .int (M 11 0), .int (M 12 0), .int (M 13 0), .int (M 14 0), .int (M 15 0), .int (M 16 0)]
def mW (g : Nat → ClassId) (q : Nat → Nat) (M : MS) : va_W := [(q 0, .inr (6, mFs q M)), (q 1, .inl (g 0, 140, .inl (M 0))), (q 2, .inl (g 0, 140, .inl (M 1))), (q 3, .inl (g 0, 840, .inl (M 2))), (q 4, .inl (g 0, 280, .inl (M 4))), (q 5, .inl (g 2, 2, .inl (M 5))), (q 6, .inl (g 0, 80, .inl (M 6))), (q 7, .inl (g 0, 80, .inl (M 8))), (q 8, .inl (g 0, 16, .inl (M 10)))]
theorem arrV_congr (cA : ClassId) {N : Nat} {f h : Nat → Value} (e : ∀ j, j < N → f j = h j) : arrV cA N f = arrV cA N h := by
  unfold arrV
  rw [show (fun j : Fin N => f j.val) = (fun j : Fin N => h j.val) from funext fun j => e j.val j.isLt]
/-- an array's place in the world, its length, its kind, by its field -/
def mAr (k : Nat) : Nat := match k with | 0 => 1 | 1 => 2 | 2 => 3 | 4 => 4 | 5 => 5 | 6 => 6 | 8 => 7 | _ => 8
def mLen (k : Nat) : Nat := match k with | 0 => 140 | 1 => 140 | 2 => 840 | 4 => 280 | 5 => 2 | 6 => 80 | 8 => 80 | _ => 16
def mP (dd : va_G) (g : Nat → ClassId) (q : Nat → Nat) (H : Heap) (M : MS) : Prop := va_P dd vwCl (mW g q M) H
/-- the model's cells are apart, and of the kind A -/
def mA (A : Nat → Prop) (q : Nat → Nat) : Prop := (∀ i j : Nat, i < 9 → j < 9 → q i = q j → i = j) ∧ ∀ i : Nat, i < 9 → A (q i)
theorem mW_at (g : Nat → ClassId) (q : Nat → Nat) (M : MS) {i : Nat} {x : Nat × va_E} (h : (mW g q M)[i]? = some x) : i < 9 ∧ x.1 = q i := by
  have hi : i < 9 := (List.getElem?_eq_some_iff.mp h).1
  refine ⟨hi, ?_⟩
  rcases (show i = 0 ∨ i = 1 ∨ i = 2 ∨ i = 3 ∨ i = 4 ∨ i = 5 ∨ i = 6 ∨ i = 7 ∨ i = 8 by omega) with rfl | rfl | rfl | rfl | rfl | rfl | rfl | rfl | rfl <;> (cases h; rfl)
theorem mA.D {A : Nat → Prop} {q : Nat → Nat} (h : mA A q) (g : Nat → ClassId) (M : MS) : va_D A (mW g q M) := by
  refine ⟨fun i j x y hx hy e => ?_, fun k x hx => ?_⟩
  · obtain ⟨hi, ei⟩ := mW_at g q M hx
    obtain ⟨hj, ej⟩ := mW_at g q M hy
    exact h.1 i j hi hj (by rw [← ei, ← ej]; exact e)
  · obtain ⟨hi, ei⟩ := mW_at g q M hx
    rw [ei]; exact h.2 k hi
theorem mP_cell {dd : va_G} {g : Nat → ClassId} {q : Nat → Nat} {H : Heap} {M N : MS} (h : mP dd g q H M) (e : ∀ k, k < 17 → ∀ j, j < mLen k → M k j = N k j) (e0 : ∀ k, k < 17 → M k 0 = N k 0) : mP dd g q H N := by
  have hF : mFs q M = mFs q N := by
    simp only [mFs, e0 3 (by decide), e0 7 (by decide), e0 9 (by decide), e0 11 (by decide), e0 12 (by decide), e0 13 (by decide), e0 14 (by decide), e0 15 (by decide), e0 16 (by decide)]
  have hA : ∀ (k n : Nat) (cA : ClassId), k < 17 → n = mLen k → vp_cell cA (n, .inl (M k)) = vp_cell cA (n, .inl (N k)) := by
    intro k n cA hk hn
    rw [vp_cell_i, vp_cell_i]
    subst hn
    exact arrV_congr cA (fun j hj => by rw [e k hk j hj])
  intro i x hx
  have hi := (mW_at g q N hx).1
  have h2 := fun y hy => h i y hy
  rcases (show i = 0 ∨ i = 1 ∨ i = 2 ∨ i = 3 ∨ i = 4 ∨ i = 5 ∨ i = 6 ∨ i = 7 ∨ i = 8 by omega) with rfl | rfl | rfl | rfl | rfl | rfl | rfl | rfl | rfl <;> cases hx
  · have := h2 _ rfl
    rw [hF] at this
    exact this
  · exact (h2 _ rfl).trans (congrArg some (hA 0 _ _ (by decide) rfl))
  · exact (h2 _ rfl).trans (congrArg some (hA 1 _ _ (by decide) rfl))
  · exact (h2 _ rfl).trans (congrArg some (hA 2 _ _ (by decide) rfl))
  · exact (h2 _ rfl).trans (congrArg some (hA 4 _ _ (by decide) rfl))
  · exact (h2 _ rfl).trans (congrArg some (hA 5 _ _ (by decide) rfl))
  · exact (h2 _ rfl).trans (congrArg some (hA 6 _ _ (by decide) rfl))
  · exact (h2 _ rfl).trans (congrArg some (hA 8 _ _ (by decide) rfl))
  · exact (h2 _ rfl).trans (congrArg some (hA 10 _ _ (by decide) rfl))
theorem mW_put (g : Nat → ClassId) (q : Nat → Nat) (M : MS) (k : Nat) (hk : k ∈ [3, 7, 9, 11, 12, 13, 14, 15, 16]) (x : Int32) : (mW g q M).set 0 (q 0, .inr (6, (mFs q M).set k (.int x))) = mW g q (mset M k 0 x) := by
  simp only [List.mem_cons, List.not_mem_nil, or_false] at hk
  rcases hk with rfl | rfl | rfl | rfl | rfl | rfl | rfl | rfl | rfl <;> simp [mW, mFs, mset, mset_ne]
theorem mW_ast (g : Nat → ClassId) (q : Nat → Nat) (M : MS) (k : Nat) (hk : k ∈ [0, 1, 2, 4, 6, 8, 10]) (j : Nat) (x : Int32) : (mW g q M).set (mAr k) (q (mAr k), .inl (g 0, mLen k, .inl (upd (M k) j x))) = mW g q (mset M k j x) := by
  simp only [List.mem_cons, List.not_mem_nil, or_false] at hk
  rcases hk with rfl | rfl | rfl | rfl | rfl | rfl | rfl <;> simp [mW, mFs, mAr, mLen, mset_row, mset_ne, mset_nk]
theorem mW_zst (g : Nat → ClassId) (q : Nat → Nat) (M : MS) (j : Nat) (x : Int32) : (mW g q M).set 5 (q 5, .inl (g 2, 2, .inl (upd (M 5) j x))) = mW g q (mset M 5 j x) := by
  simp [mW, mFs, mset_row, mset_ne, mset_nk]
theorem mFs_len (q : Nat → Nat) (M : MS) : (mFs q M).length = 17 := rfl
/-- the walk's world: the picture, and what hasn't changed -/
def mI (dd : va_G) (g : Nat → ClassId) (q : Nat → Nat) (A : Nat → Prop) (H0 H : Heap) (locs : List Loc) (M : MS) : Prop := mP dd g q H M ∧ va_S A H0 H locs
def mPre (dd : va_G) (g : Nat → ClassId) (q : Nat → Nat) (M : MS) (av : List Value) : Array Value → State → Prop := va_Pc av (fun U => mP dd g q U.heap M ∧ va_K dd vwCl (tysW g) U)
def mQi (dd : va_G) (g : Nat → ClassId) (q : Nat → Nat) (A : Nat → Prop) (post : Int32 → MS → Prop) : Array Value → State → Outcome → State → Prop := va_Qi post (fun M' t => mP dd g q t.heap M') A
def mQv (dd : va_G) (g : Nat → ClassId) (q : Nat → Nat) (A : Nat → Prop) (post : MS → Prop) : Array Value → State → Outcome → State → Prop := va_Qv post (fun M' t => mP dd g q t.heap M') A
/-- a function of numbers: it reads and writes no cell -/
def sPre (av : List Value) : Array Value → State → Prop := va_Pc av (fun _ => True)
def sQi (post : Int32 → Prop) : Array Value → State → Outcome → State → Prop := va_Qi (fun r (_ : Unit) => post r) (fun _ _ => True) (fun _ => False)
theorem mPre_blind (dd : va_G) (g : Nat → ClassId) (q : Nat → Nat) (M : MS) (av : List Value) : FrameBlind (mPre dd g q M av) := fun a U gg mk h => by
  obtain ⟨h0, hP, hK⟩ := h
  exact ⟨h0, hP, va_K.moved (u := U) (U := U.calling gg mk a) (Vm.Alike.refl U.vm) hK⟩
theorem sPre_blind (av : List Value) : FrameBlind (sPre av) := fun a U gg mk h => ⟨h.1, trivial⟩
section MR
variable {p : Program} {l : Launch} {e : Env} {R : Room} {s : State} {m : MethodId} {args : Array Value} {below : List Frame} {meth : Method} {c : Code} {H : Heap} {locs : List Loc} {cells slots : Nat} {Q : State → Prop}
variable {cc : ByteArray} {pc : Nat} {ls : Array Slot} {rest : List Value} {dd : va_G} {g : Nat → ClassId} {A : Nat → Prop} {q : Nat → Nat} {M : MS} {H0 : Heap} {own : String} {Ts : List Cond}
theorem m_get (hx : p.tables.exec = Jvm.exec) (hb : c.code = cc) {index : Nat} (hts : ∀ w ∈ Ts, w.before args s = true) (hin : ∀ w ∈ wsX60, w ∈ Ts) (hown : s.vm.findClass own = some m.cls) (hK : va_K dd vwCl (tysW g) s) (hI : mI dd g q A H0 H locs M) (k : Nat) (hk : k < 17) (hlink : (Cond.fieldLink own index (TX6 k).1 (TX6 k).2.1 (TX6 k).2.2.1).before args s = true) {v : Value} (hv : (mFs q M)[k]? = some v) (hdg : decode cc pc = .ok (.getfield index, 3))
    (kk : W p l e R s m args below meth c H locs cells slots Q (F0 m (pc + 3) ls (v :: rest))) : W p l e R s m args below meth c H locs cells slots Q (F0 m pc ls (.ref (q 0) :: rest)) :=
  va_get (C := RX6) (T := TX6) (N := 17) hx hb hts hin hown hK hI.1 0 (ci := 6) (fs := mFs q M) rfl rfl k hk hlink (fun _ h => h) hv hdg kk
theorem m_put (hx : p.tables.exec = Jvm.exec) (hb : c.code = cc) {index : Nat} (hts : ∀ w ∈ Ts, w.before args s = true) (hin : ∀ w ∈ wsX60, w ∈ Ts) (hown : s.vm.findClass own = some m.cls) (hK : va_K dd vwCl (tysW g) s) (hA : mA A q) (hI : mI dd g q A H0 H locs M) (k : Nat) (hk : k ∈ [3, 7, 9, 11, 12, 13, 14, 15, 16]) (hlink : (Cond.fieldLink own index (TX6 k).1 (TX6 k).2.1 (TX6 k).2.2.1).before args s = true) {x : Int32} (hz : k = 12 → x = 0 ∨ x = 1) (hdg : decode cc pc = .ok (.putfield index, 3))
    (kk : ∀ (H1 : Heap) (locs1 : List Loc), mI dd g q A H0 H1 locs1 (mset M k 0 x) → W p l e R s m args below meth c H1 locs1 cells slots Q (F0 m (pc + 3) ls rest)) : W p l e R s m args below meth c H locs cells slots Q (F0 m pc ls (.int x :: .ref (q 0) :: rest)) := by
  have key : ∀ (ty : FieldType), parseFieldDescriptor (TX6 k).2.2.1 = some ty → narrow ty (.int x) = .int x → fits ty (.int x) = true → (TX6 k).2.2.2 = false → k < 17 → W p l e R s m args below meth c H locs cells slots Q (F0 m pc ls (.int x :: .ref (q 0) :: rest)) := by
    intro ty hd hn hf hfin hk17
    refine va_put (C := RX6) (T := TX6) (N := 17) (v := .int x) (ty := ty) hx hb hts hin tyX6 tyX6_ok nmX6 hown hK hI.1 (hA.D g M) hI.2 0 (ci := 6) (fs := mFs q M) rfl rfl k hk17 hlink (fun _ h => h) hfin hd hn hf hk17 hdg (fun H1 locs1 h1 _ h3 => ?_)
    rw [mW_put g q M k hk x] at h1
    exact kk H1 locs1 ⟨h1, h3⟩
  simp only [List.mem_cons, List.not_mem_nil, or_false] at hk
  rcases hk with rfl | rfl | rfl | rfl | rfl | rfl | rfl | rfl | rfl
  · exact key .int (by decide +kernel) rfl rfl rfl (by decide)
  · exact key .int (by decide +kernel) rfl rfl rfl (by decide)
  · exact key .int (by decide +kernel) rfl rfl rfl (by decide)
  · exact key .int (by decide +kernel) rfl rfl rfl (by decide)
  · rcases hz rfl with rfl | rfl
    · exact key .boolean (by decide +kernel) rfl rfl rfl (by decide)
    · exact key .boolean (by decide +kernel) rfl rfl rfl (by decide)
  · exact key .int (by decide +kernel) rfl rfl rfl (by decide)
  · exact key .int (by decide +kernel) rfl rfl rfl (by decide)
  · exact key .int (by decide +kernel) rfl rfl rfl (by decide)
  · exact key .int (by decide +kernel) rfl rfl rfl (by decide)
theorem mLen_le (k : Nat) : mLen k ≤ 840 := by unfold mLen; split <;> decide
theorem m_ald (hx : p.tables.exec = Jvm.exec) (hb : c.code = cc) (hK : va_K dd vwCl (tysW g) s) (hI : mI dd g q A H0 H locs M) (k : Nat) (hk : k ∈ [0, 1, 2, 4, 6, 8, 10]) (j : Nat) (hj : j < mLen k) {i : Int32} (hi : i = nI j) {v : Int32} (hv : M k j = v) (hdg : decode cc pc = .ok (.iaload, 1))
    (kk : W p l e R s m args below meth c H locs cells slots Q (F0 m (pc + 1) ls (.int v :: rest))) : W p l e R s m args below meth c H locs cells slots Q (F0 m pc ls (.int i :: .ref (q (mAr k)) :: rest)) := by
  subst hi; subst hv
  have hl := mLen_le k
  have ej : (nI j).toNatClampNeg = j := nI_clamp (by omega)
  have hin := vp_in_nI hj (by omega)
  rw [← ej] at kk
  simp only [List.mem_cons, List.not_mem_nil, or_false] at hk
  rcases hk with rfl | rfl | rfl | rfl | rfl | rfl | rfl
  · exact va_iald hx hb hK hI.1 1 0 rfl rfl hin hdg kk
  · exact va_iald hx hb hK hI.1 2 0 rfl rfl hin hdg kk
  · exact va_iald hx hb hK hI.1 3 0 rfl rfl hin hdg kk
  · exact va_iald hx hb hK hI.1 4 0 rfl rfl hin hdg kk
  · exact va_iald hx hb hK hI.1 6 0 rfl rfl hin hdg kk
  · exact va_iald hx hb hK hI.1 7 0 rfl rfl hin hdg kk
  · exact va_iald hx hb hK hI.1 8 0 rfl rfl hin hdg kk
theorem m_zld (hx : p.tables.exec = Jvm.exec) (hb : c.code = cc) (hK : va_K dd vwCl (tysW g) s) (hI : mI dd g q A H0 H locs M) (j : Nat) (hj : j < 2) {i : Int32} (hi : i = nI j) {v : Int32} (hv : M 5 j = v) (hdg : decode cc pc = .ok (.baload, 1))
    (kk : W p l e R s m args below meth c H locs cells slots Q (F0 m (pc + 1) ls (.int v :: rest))) : W p l e R s m args below meth c H locs cells slots Q (F0 m pc ls (.int i :: .ref (q 5) :: rest)) := by
  subst hi; subst hv
  have ej : (nI j).toNatClampNeg = j := nI_clamp (by omega)
  have hin := vp_in_nI hj (by omega)
  rw [← ej] at kk
  exact va_zald hx hb hK hI.1 5 2 rfl rfl hin hdg kk
theorem m_ast (hx : p.tables.exec = Jvm.exec) (hb : c.code = cc) (hK : va_K dd vwCl (tysW g) s) (hA : mA A q) (hI : mI dd g q A H0 H locs M) (k : Nat) (hk : k ∈ [0, 1, 2, 4, 6, 8, 10]) (j : Nat) (hj : j < mLen k) {i x : Int32} (hi : i = nI j) (hdg : decode cc pc = .ok (.iastore, 1))
    (kk : ∀ (H1 : Heap) (locs1 : List Loc), mI dd g q A H0 H1 locs1 (mset M k j x) → W p l e R s m args below meth c H1 locs1 cells slots Q (F0 m (pc + 1) ls rest)) : W p l e R s m args below meth c H locs cells slots Q (F0 m pc ls (.int x :: .int i :: .ref (q (mAr k)) :: rest)) := by
  subst hi
  have hl := mLen_le k
  have ej : (nI j).toNatClampNeg = j := nI_clamp (by omega)
  have hin := vp_in_nI hj (by omega)
  have fin : ∀ (H1 : Heap) (locs1 : List Loc), va_P dd vwCl ((mW g q M).set (mAr k) (q (mAr k), .inl (g 0, mLen k, .inl (upd (M k) (nI j).toNatClampNeg x)))) H1 → va_S A H0 H1 locs1 → W p l e R s m args below meth c H1 locs1 cells slots Q (F0 m (pc + 1) ls rest) := by
    intro H1 locs1 h1 h3
    rw [ej, mW_ast g q M k hk j x] at h1
    exact kk H1 locs1 ⟨h1, h3⟩
  simp only [List.mem_cons, List.not_mem_nil, or_false] at hk
  rcases hk with rfl | rfl | rfl | rfl | rfl | rfl | rfl
  · exact va_iast hx hb hK hI.1 (hA.D g M) hI.2 1 0 rfl rfl hin hdg (fun H1 locs1 h1 _ h3 => fin H1 locs1 h1 h3)
  · exact va_iast hx hb hK hI.1 (hA.D g M) hI.2 2 0 rfl rfl hin hdg (fun H1 locs1 h1 _ h3 => fin H1 locs1 h1 h3)
  · exact va_iast hx hb hK hI.1 (hA.D g M) hI.2 3 0 rfl rfl hin hdg (fun H1 locs1 h1 _ h3 => fin H1 locs1 h1 h3)
  · exact va_iast hx hb hK hI.1 (hA.D g M) hI.2 4 0 rfl rfl hin hdg (fun H1 locs1 h1 _ h3 => fin H1 locs1 h1 h3)
  · exact va_iast hx hb hK hI.1 (hA.D g M) hI.2 6 0 rfl rfl hin hdg (fun H1 locs1 h1 _ h3 => fin H1 locs1 h1 h3)
  · exact va_iast hx hb hK hI.1 (hA.D g M) hI.2 7 0 rfl rfl hin hdg (fun H1 locs1 h1 _ h3 => fin H1 locs1 h1 h3)
  · exact va_iast hx hb hK hI.1 (hA.D g M) hI.2 8 0 rfl rfl hin hdg (fun H1 locs1 h1 _ h3 => fin H1 locs1 h1 h3)
theorem m_zst (hx : p.tables.exec = Jvm.exec) (hb : c.code = cc) (hK : va_K dd vwCl (tysW g) s) (hA : mA A q) (hI : mI dd g q A H0 H locs M) (j : Nat) (hj : j < 2) {i x : Int32} (hi : i = nI j) (hz : x = 0 ∨ x = 1) (hdg : decode cc pc = .ok (.bastore, 1))
    (kk : ∀ (H1 : Heap) (locs1 : List Loc), mI dd g q A H0 H1 locs1 (mset M 5 j x) → W p l e R s m args below meth c H1 locs1 cells slots Q (F0 m (pc + 1) ls rest)) : W p l e R s m args below meth c H locs cells slots Q (F0 m pc ls (.int x :: .int i :: .ref (q 5) :: rest)) := by
  subst hi
  have ej : (nI j).toNatClampNeg = j := nI_clamp (by omega)
  have hin := vp_in_nI hj (by omega)
  have hn : vp_nar .boolean x = x := by rcases hz with rfl | rfl <;> rfl
  refine va_zast hx hb hK hI.1 (hA.D g M) hI.2 5 2 rfl rfl hin hdg (fun H1 locs1 h1 _ h3 => ?_)
  rw [ej, hn, mW_zst g q M j x] at h1
  exact kk H1 locs1 ⟨h1, h3⟩
variable {nL index n maxL : Nat} {y : MethodName} {bytes : ByteArray} {ret : Option FieldType} {ws : List Cond} {rm : Room} {As : List Value} {lv : List (Nat × Value)}
theorem m_calli (hx : p.tables.exec = Jvm.exec) (hb : c.code = cc) (hml : c.maxLocals = nL) (hown : s.vm.findClass own = some m.cls) (hts : ∀ w ∈ Ts, w.before args s = true) (hK : va_K dd vwCl (tysW g) s) (hI : mI dd g q A H0 H locs M) {post : Int32 → MS → Prop} (hM : Met l y ws rm (mPre dd g q M (.ref (q 0) :: As)) (mQi dd g q A post) 0 0 A) (cw : CallW R s args own RX6 index y bytes maxL ret ws rm 0 0 n) (hn : As.length = n) (hl : lv_has ls nL lv) (hr : (rest.map fun v => v.category).sum ≤ 8) (hc : cells ≤ R.cells ∧ slots ≤ R.slots) (hdg : decode cc pc = .ok (.invokevirtual index, 3)) {st : List Value} (hst : st = As.reverse ++ .ref (q 0) :: rest)
    (kk : ∀ (r : Int32) (M' : MS) (H1 : Heap) (locs1 : List Loc), post r M' → mI dd g q A H0 H1 locs1 M' → W p l e R s m args below meth c H1 locs1 cells slots Q (F0 m (pc + 3) ls (.int r :: rest))) : W p l e R s m args below meth c H locs cells slots Q (F0 m pc ls st) := by
  refine va_calli (va_runV (As := As) (rest := rest) ⟨hx, hb, hml, hown, hts⟩ hM cw ⟨mPre_blind dd g q M _, va_recv hK hI.1 (ci := 6) (q0 := 0) rfl rfl, fun U hU hW => ⟨rfl, by rw [hU]; exact hI.1, va_K.moved hW.alike hK⟩⟩ rfl hn hl.1 hst (lv_room hr) hdg hc) hI.2 (fun _ _ h => h) (fun _ h => h) (fun r u t H1 locs1 ht _ hp hB _ _ hS => ?_)
  exact kk r u H1 locs1 hp ⟨by rw [← ht]; exact hB, hS⟩
theorem m_callv (hx : p.tables.exec = Jvm.exec) (hb : c.code = cc) (hml : c.maxLocals = nL) (hown : s.vm.findClass own = some m.cls) (hts : ∀ w ∈ Ts, w.before args s = true) (hK : va_K dd vwCl (tysW g) s) (hI : mI dd g q A H0 H locs M) {post : MS → Prop} (hM : Met l y ws rm (mPre dd g q M (.ref (q 0) :: As)) (mQv dd g q A post) 0 0 A) (cw : CallW R s args own RX6 index y bytes maxL ret ws rm 0 0 n) (hn : As.length = n) (hl : lv_has ls nL lv) (hr : (rest.map fun v => v.category).sum ≤ 8) (hc : cells ≤ R.cells ∧ slots ≤ R.slots) (hdg : decode cc pc = .ok (.invokevirtual index, 3)) {st : List Value} (hst : st = As.reverse ++ .ref (q 0) :: rest)
    (kk : ∀ (M' : MS) (H1 : Heap) (locs1 : List Loc), post M' → mI dd g q A H0 H1 locs1 M' → W p l e R s m args below meth c H1 locs1 cells slots Q (F0 m (pc + 3) ls rest)) : W p l e R s m args below meth c H locs cells slots Q (F0 m pc ls st) := by
  refine va_callv (va_runV (As := As) (rest := rest) ⟨hx, hb, hml, hown, hts⟩ hM cw ⟨mPre_blind dd g q M _, va_recv hK hI.1 (ci := 6) (q0 := 0) rfl rfl, fun U hU hW => ⟨rfl, by rw [hU]; exact hI.1, va_K.moved hW.alike hK⟩⟩ rfl hn hl.1 hst (lv_room hr) hdg hc) hI.2 (fun _ _ h => h) (fun _ h => h) (fun u t H1 locs1 ht _ hp hB _ _ hS => ?_)
  exact kk u H1 locs1 hp ⟨by rw [← ht]; exact hB, hS⟩
/-- a static call of a function of numbers -/
theorem s_calli (hx : p.tables.exec = Jvm.exec) (hb : c.code = cc) (hml : c.maxLocals = nL) (hown : s.vm.findClass own = some m.cls) (hts : ∀ w ∈ Ts, w.before args s = true) (hS : va_S A H0 H locs) {post : Int32 → Prop} (hM : Met l y ws rm (sPre As) (sQi post) 0 0 (fun _ => False)) (cw : CallB R s args own index y bytes maxL ret ws rm 0 0 n ∧ (Cond.static y).before args s = true) (hn : As.length = n) (hl : lv_has ls nL lv) (hr : (rest.map fun v => v.category).sum ≤ 8) (hc : cells ≤ R.cells ∧ slots ≤ R.slots) (hdg : decode cc pc = .ok (.invokestatic index, 3)) {st : List Value} (hst : st = As.reverse ++ rest)
    (kk : ∀ (r : Int32) (H1 : Heap) (locs1 : List Loc), post r → (∀ q : Nat, q < H.size → H1[q]? = H[q]?) → va_S A H0 H1 locs1 → W p l e R s m args below meth c H1 locs1 cells slots Q (F0 m (pc + 3) ls (.int r :: rest))) : W p l e R s m args below meth c H locs cells slots Q (F0 m pc ls st) := by
  refine va_calli (va_runS (As := As) (rest := rest) ⟨hx, hb, hml, hown, hts⟩ hM cw ⟨sPre_blind _, fun U hU hW => ⟨rfl, trivial⟩⟩ rfl hn hl.1 hst (lv_room hr) hdg hc) hS (fun _ _ h => h.elim) (fun _ h => h.elim) (fun r u t H1 locs1 ht _ hp hB _ hk hS => ?_)
  exact kk r H1 locs1 hp (fun q h => hk q h (fun z => z)) hS
theorem m_calls (hx : p.tables.exec = Jvm.exec) (hb : c.code = cc) (hml : c.maxLocals = nL) (hown : s.vm.findClass own = some m.cls) (hts : ∀ w ∈ Ts, w.before args s = true) (hI : mI dd g q A H0 H locs M) {post : Int32 → Prop} (hM : Met l y ws rm (sPre As) (sQi post) 0 0 (fun _ => False)) (cw : CallB R s args own index y bytes maxL ret ws rm 0 0 n ∧ (Cond.static y).before args s = true) (hn : As.length = n) (hl : lv_has ls nL lv) (hr : (rest.map fun v => v.category).sum ≤ 8) (hc : cells ≤ R.cells ∧ slots ≤ R.slots) (hdg : decode cc pc = .ok (.invokestatic index, 3)) {st : List Value} (hst : st = As.reverse ++ rest)
    (kk : ∀ (r : Int32) (H1 : Heap) (locs1 : List Loc), post r → mI dd g q A H0 H1 locs1 M → W p l e R s m args below meth c H1 locs1 cells slots Q (F0 m (pc + 3) ls (.int r :: rest))) : W p l e R s m args below meth c H locs cells slots Q (F0 m pc ls st) := by
  refine s_calli hx hb hml hown hts hI.2 hM cw hn hl hr hc hdg hst (fun r H1 locs1 hp hk hS => ?_)
  exact kk r H1 locs1 hp ⟨hI.1.kept (fun k x hx => hk x.1 (hI.1 k x hx).lt), hS⟩
end MR
end
section
/-! the walk's goal, returns, and the pure words of a beat's state (f: the table's row 0, a place as the model has it) -/
abbrev wk (p : Program) (l : Launch) (e : Env) (ws : List Cond) (rm : Room) (s : State) (m : MethodId) (av : List Value) (below : List Frame) (meth : Method) (c : Code) (H : Heap) (locs : List Loc) (Qc : Array Value → State → Outcome → State → Prop) (A : Nat → Prop) (fr : JFrame) : Prop :=
  W p l e (headSpec ws rm).room s m av.toArray below meth c H locs 0 0 (MQ below Qc av.toArray s 0 0 A) fr
section MB
variable {p : Program} {l : Launch} {e : Env} {R : Room} {s : State} {m : MethodId} {args : Array Value} {below : List Frame} {meth : Method} {c : Code} {H : Heap} {locs : List Loc} {cells slots : Nat} {Q : State → Prop}
variable {cc : ByteArray} {pc : Nat} {ls : Array Slot} {rest : List Value} {dd : va_G} {g : Nat → ClassId} {A : Nat → Prop} {q : Nat → Nat} {M : MS}
theorem lv_re {x y : Int32} (h : x = y) (k : W p l e R s m args below meth c H locs cells slots Q (F0 m pc ls (.int y :: rest))) : W p l e R s m args below meth c H locs cells slots Q (F0 m pc ls (.int x :: rest)) := h ▸ k
theorem m_iret {v : Int32} {post : Int32 → MS → Prop} (hx : p.tables.exec = Jvm.exec) (hb : c.code = cc) (hr : meth.sig.returnType = some .int) (hI : mI dd g q A s.heap H locs M) (hp : post v M) (hdg : decode cc pc = .ok (.ireturn, 1)) (hlocks : meth.locks = false) : W p l e R s m args below meth c H locs cells slots (MQ below (mQi dd g q A post) args s cells slots A) (F0 m pc ls [.int v]) :=
  W.iret (v := v) hx hb hr (fun t ht hW => ⟨⟨v, M, rfl, hp, by show mP dd g q t.heap M; rw [ht]; exact hI.1⟩, hI.2.F ht⟩) hI.2.2.2 hdg hlocks
theorem m_zret {v : Int32} {ty : FieldType} {post : Int32 → MS → Prop} (hx : p.tables.exec = Jvm.exec) (hb : c.code = cc) (hr : meth.sig.returnType = some ty) (hn : narrow ty (.int v) = .int v) (hI : mI dd g q A s.heap H locs M) (hp : post v M) (hdg : decode cc pc = .ok (.ireturn, 1)) (hlocks : meth.locks = false) : W p l e R s m args below meth c H locs cells slots (MQ below (mQi dd g q A post) args s cells slots A) (F0 m pc ls [.int v]) :=
  W.zret (v := v) hx hb hr hn (fun t ht hW => ⟨⟨v, M, rfl, hp, by show mP dd g q t.heap M; rw [ht]; exact hI.1⟩, hI.2.F ht⟩) hI.2.2.2 hdg hlocks
theorem m_vret {post : MS → Prop} (hx : p.tables.exec = Jvm.exec) (hb : c.code = cc) (hr : meth.sig.returnType = none) (hI : mI dd g q A s.heap H locs M) (hp : post M) (hdg : decode cc pc = .ok (.return_, 1)) (hlocks : meth.locks = false) : W p l e R s m args below meth c H locs cells slots (MQ below (mQv dd g q A post) args s cells slots A) (F0 m pc ls []) :=
  W.vret hx hb hr (fun t ht hW => ⟨⟨M, rfl, hp, by show mP dd g q t.heap M; rw [ht]; exact hI.1⟩, hI.2.F ht⟩) hI.2.2.2 hdg hlocks
theorem s_iret {v : Int32} {post : Int32 → Prop} (hx : p.tables.exec = Jvm.exec) (hb : c.code = cc) (hr : meth.sig.returnType = some .int) (hS : va_S (fun _ => False) s.heap H locs) (hp : post v) (hdg : decode cc pc = .ok (.ireturn, 1)) (hlocks : meth.locks = false) : W p l e R s m args below meth c H locs cells slots (MQ below (sQi post) args s cells slots (fun _ => False)) (F0 m pc ls [.int v]) :=
  W.iret (v := v) hx hb hr (fun t ht hW => ⟨⟨v, (), rfl, hp, trivial⟩, hS.F ht⟩) hS.2.2 hdg hlocks
theorem s_zret {v : Int32} {ty : FieldType} {post : Int32 → Prop} (hx : p.tables.exec = Jvm.exec) (hb : c.code = cc) (hr : meth.sig.returnType = some ty) (hn : narrow ty (.int v) = .int v) (hS : va_S (fun _ => False) s.heap H locs) (hp : post v) (hdg : decode cc pc = .ok (.ireturn, 1)) (hlocks : meth.locks = false) : W p l e R s m args below meth c H locs cells slots (MQ below (sQi post) args s cells slots (fun _ => False)) (F0 m pc ls [.int v]) :=
  W.zret (v := v) hx hb hr hn (fun t ht hW => ⟨⟨v, (), rfl, hp, trivial⟩, hS.F ht⟩) hS.2.2 hdg hlocks
end MB
/-! a row of the table changed as a whole -/
def ms0 (M : MS) (f : Nat → Int32) : MS := fun a => if a = 0 then f else M a
theorem ms0_0 (M : MS) (f : Nat → Int32) : ms0 M f 0 = f := rfl
theorem ms0_ms0 (M : MS) (f h : Nat → Int32) : ms0 (ms0 M f) h = ms0 M h := by funext a; simp only [ms0]; split <;> rfl
theorem ms0_self (M : MS) : ms0 M (M 0) = M := by
  funext a; simp only [ms0]; split
  · next h => rw [h]
  · rfl
theorem ms0_k (M : MS) (f : Nat → Int32) {k : Nat} (h : k ≠ 0) : ms0 M f k = M k := by simp [ms0, h]
theorem mset_0 (M : MS) (j : Nat) (x : Int32) : mset M 0 j x = ms0 M (upd (M 0) j x) := by
  funext a b; by_cases h : a = 0
  · subst h; simp [mset, ms0, upd]
  · simp [mset, ms0, h]
theorem upd_self {f : Nat → Int32} {k : Nat} {x : Int32} : upd f k x k = x := by simp [upd]
theorem upd_ne {f : Nat → Int32} {k j : Nat} {x : Int32} (h : j ≠ k) : upd f k x j = f j := by simp [upd, h]
theorem upd_id (f : Nat → Int32) (k : Nat) : upd f k (f k) = f := by
  funext j; simp only [upd]; split
  · next h => rw [h]
  · rfl
theorem upd_upd (f : Nat → Int32) (k : Nat) (x y : Int32) : upd (upd f k x) k y = upd f k y := by
  funext j; simp only [upd]; split <;> rfl
/-! numbers -/
def jabs (x : Int32) : Int32 := if 0 ≤ x then x else -x
def inB (v lo hi : Int32) : Bool := decide (¬ v < lo) && decide (¬ hi < v)
theorem inB_t {v lo hi : Int32} : inB v lo hi = true ↔ ¬ v < lo ∧ ¬ hi < v := by simp [inB]
theorem inB_f {v lo hi : Int32} : inB v lo hi = false ↔ ¬ (¬ v < lo ∧ ¬ hi < v) := by rw [← inB_t]; simp
def manyN (x : Int32) : Nat → Int32
  | 0 => 0
  | k + 1 => manyN x k + (x >>> (nI k &&& 31) &&& 1)
/-! the state: how many clocks, ladders; what a loop over them says -/
def cn (f : Nat → Int32) : Nat := (f 5).toNatClampNeg
def ln (f : Nat → Int32) : Nat := (f 6).toNatClampNeg
def Wk (f : Nat → Int32) : Prop := f 5 = nI (cn f) ∧ cn f ≤ 16 ∧ f 6 = nI (ln f) ∧ ln f ≤ 4
def isC (f : Nat → Int32) (c : Int32) (i : Nat) : Prop := i < cn f ∧ c = nI i
theorem Wk.congr {f h : Nat → Int32} (w : Wk f) (e5 : h 5 = f 5) (e6 : h 6 = f 6) : Wk h ∧ cn h = cn f ∧ ln h = ln f := by
  have a : cn h = cn f := by simp only [cn, e5]
  have b : ln h = ln f := by simp only [ln, e6]
  refine ⟨⟨by rw [a, e5]; exact w.1, by rw [a]; exact w.2.1, by rw [b, e6]; exact w.2.2.1, by rw [b]; exact w.2.2.2⟩, a, b⟩
def rt (f : Nat → Int32) (c : Nat) : Int32 := f (12 + 8 * c + 2) + 3 * f (12 + 8 * c + 3)
def offB (f : Nat → Int32) (c : Nat) (t : Int32) : Bool := decide (¬ jabs (f (12 + 8 * c + 4)) ≤ t)
def o2i (o : Option Nat) : Int32 := match o with | none => -6 | some k => nI k
/-- the ladder for a clock of r rungs, among the first k -/
def ladP (f : Nat → Int32) (r : Int32) : Nat → Option Nat
  | 0 => none
  | k + 1 => match ladP f r k with
    | none => if ¬ r ≤ 0 ∧ ¬ f (8 + k) < r then some k else none
    | some j => if (¬ r ≤ 0 ∧ ¬ f (8 + k) < r) ∧ ¬ f (8 + j) ≤ f (8 + k) then some k else some j
theorem ladP_lt (f : Nat → Int32) (r : Int32) : ∀ (k j : Nat), ladP f r k = some j → j < k := by
  intro k
  induction k with
  | zero => intro j h; cases h
  | succ k ih =>
    intro j h
    unfold ladP at h
    split at h
    · split at h
      · cases h; omega
      · cases h
    · next i hi =>
      have := ih i hi
      split at h
      · cases h; omega
      · cases h; omega
def ladF (f : Nat → Int32) (c : Nat) : Option Nat := ladP f (f (12 + 8 * c + 1)) (ln f)
def canW (f : Nat → Int32) (c : Nat) : Bool := decide (f (12 + 8 * c + 1) = 0) || (ladF f c).isSome
theorem canW_t {f : Nat → Int32} {c : Nat} : canW f c = true ↔ f (12 + 8 * c + 1) = 0 ∨ ladF f c ≠ none := by
  unfold canW
  cases ladF f c <;> simp
theorem canW_f {f : Nat → Int32} {c : Nat} : canW f c = false ↔ ¬ (f (12 + 8 * c + 1) = 0 ∨ ladF f c ≠ none) := by rw [← canW_t]; simp
def dayM (f : Nat → Int32) (c : Nat) : Nat → Int32 :=
  if f (12 + 8 * c + 6) = 1 then
    if ¬ f (12 + 8 * c + 5) + 1 ≤ f 1 then upd (upd (upd (upd f (12 + 8 * c + 5) (f (12 + 8 * c + 5) + 1)) (12 + 8 * c + 4) (f (12 + 8 * c + 4) + rt f c)) (12 + 8 * c + 6) 0) (12 + 8 * c + 4) 43200
    else upd (upd f (12 + 8 * c + 5) (f (12 + 8 * c + 5) + 1)) (12 + 8 * c + 4) (f (12 + 8 * c + 4) + rt f c)
  else upd f (12 + 8 * c + 5) (f (12 + 8 * c + 5) + 1)
def stillN (f : Nat → Int32) : Nat → Int32
  | 0 => 0
  | k + 1 => stillN f k ||| (if f (12 + 8 * k + 6) = 1 then (0 : Int32) else (1 : Int32) <<< (nI k &&& 31))
theorem isC_iff {f : Nat → Int32} (w : Wk f) (x : Int32) : inB x 0 (f 5 - 1) = true ↔ ∃ i, isC f x i := by
  rw [inB_t]
  obtain ⟨h5, h16, -, -⟩ := w
  have e1 : (f 5 - 1).toInt = (cn f : Int) - 1 := by
    rw [h5]
    have := pk_sub_toInt (a := cn f) (b := 1) (by omega) (by omega)
    exact this
  constructor
  · rintro ⟨h1, h2⟩
    obtain ⟨j, hj, rfl⟩ := nI_of h1
    refine ⟨j, ?_, rfl⟩
    have h3 : ¬ (f 5 - 1).toInt < (nI j).toInt := fun z => h2 (Int32.lt_iff_toInt_lt.mpr z)
    rw [e1, nI_toInt hj] at h3
    omega
  · rintro ⟨i, hi, rfl⟩
    refine ⟨nI_pos (by omega), fun z => ?_⟩
    have h3 := Int32.lt_iff_toInt_lt.mp z
    rw [e1, nI_toInt (by omega)] at h3
    omega
theorem nI_nm {n : Nat} (h : n < 2 ^ 31) : nI n ≠ -6 := by
  intro z
  have e : (nI n).toInt = (-6 : Int32).toInt := by rw [z]
  rw [nI_toInt h, show (-6 : Int32).toInt = -6 from by decide] at e
  omega
theorem o2i_ne {o : Option Nat} (h : ∀ k, o = some k → k < 2 ^ 31) : o2i o ≠ -6 ↔ o ≠ none := by
  cases o with
  | none => simp [o2i]
  | some k => simp [o2i, nI_nm (h k rfl)]
theorem ladF_lt {f : Nat → Int32} (w : Wk f) (c : Nat) : ∀ k, ladF f c = some k → k < 2 ^ 31 := fun k h => by
  have := ladP_lt _ _ _ _ h
  have := w.2.2.2
  omega
end
section
/-! what the methods do to the state, as the model does it -/
def mrow (M : MS) (k : Nat) (f : Nat → Int32) : MS := fun a => if a = k then f else M a
theorem mrow_s (M : MS) (k : Nat) (f : Nat → Int32) : mrow M k f k = f := by simp [mrow]
theorem mrow_n (M : MS) {k a : Nat} (h : a ≠ k) (f : Nat → Int32) : mrow M k f a = M a := by simp [mrow, h]
theorem mset_mrow (M : MS) (k j : Nat) (x : Int32) : mset M k j x = mrow M k (upd (M k) j x) := by
  funext a b; by_cases h : a = k
  · subst h; simp [mset, mrow, upd]
  · simp [mset, mrow, h]
theorem dayM_lo (f : Nat → Int32) (c : Nat) {j : Nat} (h : j < 12) : dayM f c j = f j := by
  have a : ∀ w, j ≠ 12 + 8 * c + w := fun w => by omega
  unfold dayM; split
  · split <;> simp [upd, a]
  · simp [upd, a]
def dayAll (f : Nat → Int32) : Nat → Nat → Int32
  | 0 => f
  | c + 1 => dayM (dayAll f c) c
theorem dayAll_lo (f : Nat → Int32) (n : Nat) {j : Nat} (h : j < 12) : dayAll f n j = f j := by
  induction n with
  | zero => rfl
  | succ n ih => show dayM _ _ j = _; rw [dayM_lo _ _ h, ih]
def passD (f : Nat → Int32) : Nat → Nat → Int32
  | 0 => f
  | d + 1 => dayAll (passD f d) (cn f)
theorem passD_lo (f : Nat → Int32) (n : Nat) {j : Nat} (h : j < 12) : passD f n j = f j := by
  induction n with
  | zero => rfl
  | succ n ih => show dayAll _ _ j = _; rw [dayAll_lo _ _ h, ih]
def chg1 (f : Nat → Int32) (a : Int32) (c : Nat) : Nat → Int32 := upd f (12 + 8 * c + 4) (f (12 + 8 * c + 4) + (if f (12 + 8 * c + 6) = 0 then 0 else if a = 1 then -3600 else 3600))
def chgA (f : Nat → Int32) (a : Int32) : Nat → Nat → Int32
  | 0 => f
  | c + 1 => chg1 (chgA f a c) a c
theorem chgA_lo (f : Nat → Int32) (a : Int32) (n : Nat) {j : Nat} (h : j < 12) : chgA f a n j = f j := by
  induction n with
  | zero => rfl
  | succ n ih =>
    show chg1 _ _ _ j = _
    unfold chg1
    rw [upd_ne (by omega), ih]
def wkS (f : Nat → Int32) (c : Nat) : Int32 := f (12 + 8 * c + 3) + (if ¬ rt f c ≤ 0 then -1 else if 0 ≤ rt f c then 0 else 1)
def workM (f : Nat → Int32) (c : Nat) : Nat → Int32 :=
  let h := if f (12 + 8 * c + 6) = 1 ∧ ¬ jabs (f (12 + 8 * c + 4)) ≤ f 0 / 2 then upd f (12 + 8 * c + 3) (if inB (wkS f c) (-20) 20 = true then wkS f c else f (12 + 8 * c + 3)) else f
  upd (upd (upd (upd h (12 + 8 * c + 6) 1) (12 + 8 * c + 4) 0) (12 + 8 * c + 5) 0) (12 + 8 * c + 7) (f (12 + 8 * c + 7) + 1)
theorem workM_lo (f : Nat → Int32) (c : Nat) {j : Nat} (h : j < 12) : workM f c j = f j := by
  have a : ∀ w, j ≠ 12 + 8 * c + w := fun w => by omega
  unfold workM; split <;> simp [upd, a]
/-- the minutes: sum, house, what is carried, when k of the row are gone -/
def miS (f w : Nat → Int32) : Nat → Int32 × Int32 × Int32
  | 0 => (0, 0, -6)
  | k + 1 =>
    let p := miS f w k
    let c := (w k).toNatClampNeg
    let t := f (12 + 8 * c + 0)
    let u := p.1 + jabs (p.2.1 - t) * f 2
    if canW f c = true then
      (u + f 3 + (if o2i (ladF f c) = -6 ∨ o2i (ladF f c) = p.2.2 then 0 else 2 * (jabs (t - 0) * f 2)), t, if o2i (ladF f c) = -6 then p.2.2 else o2i (ladF f c))
    else (u, t, p.2.2)
def miV (f w : Nat → Int32) (k : Nat) : Int32 := (miS f w k).1 + jabs ((miS f w k).2.1 - 0) * f 2
def goF (f w : Nat → Int32) : Nat → Nat → Int32
  | 0 => f
  | k + 1 => if canW (goF f w k) (w k).toNatClampNeg = true then workM (goF f w k) (w k).toNatClampNeg else goF f w k
theorem goF_lo (f w : Nat → Int32) (n : Nat) {j : Nat} (h : j < 12) : goF f w n j = f j := by
  induction n with
  | zero => rfl
  | succ n ih =>
    unfold goF; split
    · rw [workM_lo _ _ h, ih]
    · exact ih
/-- a row of clocks: its length and what it holds, when k clocks are looked at -/
def loW (n : Nat) (x : Int32) (b : Bool) (w : Nat → Int32) : Nat → Nat × (Nat → Int32)
  | 0 => (0, w)
  | k + 1 =>
    let p := loW n x b w k
    let c := if b then n - 1 - k else k
    if (x >>> (nI c &&& 31)) &&& 1 = 1 then (p.1 + 1, upd p.2 p.1 (nI c)) else p
theorem loW_le (n : Nat) (x : Int32) (b : Bool) (w : Nat → Int32) (k : Nat) : (loW n x b w k).1 ≤ k := by
  induction k with
  | zero => exact Nat.le_refl _
  | succ k ih =>
    have key : ∀ (P : Prop) [Decidable P] (a : Nat × (Nat → Int32)) (h : Nat → Int32), (if P then (a.1 + 1, h) else a).1 ≤ a.1 + 1 := by
      intro P _ a h
      split
      · exact Nat.le_refl _
      · exact Nat.le_succ _
    exact Nat.le_trans (key _ _ _) (Nat.succ_le_succ ih)
end
section
/-! rows of places that are copied; the row of a beat -/
def loL (n : Nat) (x : Int32) (b : Bool) (w : Nat → Int32) (k : Nat) : Nat := (loW n x b w k).1
def loN (n : Nat) (x : Int32) (b : Bool) (w : Nat → Int32) (k : Nat) : Nat → Int32 := (loW n x b w k).2
def loC (n : Nat) (b : Bool) (k : Nat) : Nat := if b then n - 1 - k else k
theorem loL_le (n : Nat) (x : Int32) (b : Bool) (w : Nat → Int32) (k : Nat) : loL n x b w k ≤ k := loW_le n x b w k
theorem loW_t {n : Nat} {x : Int32} {b : Bool} {w : Nat → Int32} {k : Nat} (h : (x >>> (nI (loC n b k) &&& 31)) &&& 1 = 1) : loL n x b w (k + 1) = loL n x b w k + 1 ∧ loN n x b w (k + 1) = upd (loN n x b w k) (loL n x b w k) (nI (loC n b k)) := by
  unfold loL loN; unfold loC at h ⊢; simp only [loW, h, if_true]; exact ⟨trivial, trivial⟩
theorem loW_f {n : Nat} {x : Int32} {b : Bool} {w : Nat → Int32} {k : Nat} (h : ¬ (x >>> (nI (loC n b k) &&& 31)) &&& 1 = 1) : loL n x b w (k + 1) = loL n x b w k ∧ loN n x b w (k + 1) = loN n x b w k := by
  unfold loL loN; unfold loC at h; simp only [loW, h, if_false]; exact ⟨trivial, trivial⟩
def loM (M : MS) (n : Nat) (x : Int32) (b : Bool) (k : Nat) : MS := mset (mrow M 8 (loN n x b (M 8) k)) 9 0 (nI (loL n x b (M 8) k))
theorem mrow_self (M : MS) (k : Nat) : mrow M k (M k) = M := by
  funext a; simp only [mrow]; split
  · next h => rw [h]
  · rfl
theorem loM_0 (M : MS) (n : Nat) (x : Int32) (b : Bool) : mset M 9 0 0 = loM M n x b 0 := by
  show mset M 9 0 0 = mset (mrow M 8 (M 8)) 9 0 (nI 0)
  rw [mrow_self]; rfl
theorem loM_t {M : MS} {n : Nat} {x : Int32} {b : Bool} {k : Nat} (h : (x >>> (nI (loC n b k) &&& 31)) &&& 1 = 1) : mset (mset (loM M n x b k) 8 (loL n x b (M 8) k) (nI (loC n b k))) 9 0 (nI (loL n x b (M 8) k + 1)) = loM M n x b (k + 1) := by
  obtain ⟨h1, h2⟩ := loW_t (w := M 8) h
  unfold loM; rw [h1, h2]
  funext i j
  simp only [mset, mrow, upd]
  by_cases a : i = 9 ∧ j = 0
  · simp [a]
  · rw [if_neg a, if_neg a, if_neg a]
    by_cases e : i = 8
    · subst e; simp [upd]
    · simp [e]
theorem loM_f {M : MS} {n : Nat} {x : Int32} {b : Bool} {k : Nat} (h : ¬ (x >>> (nI (loC n b k) &&& 31)) &&& 1 = 1) : loM M n x b k = loM M n x b (k + 1) := by
  obtain ⟨h1, h2⟩ := loW_f (w := M 8) h
  unfold loM; rw [h1, h2]
theorem loM_k (M : MS) (n : Nat) (x : Int32) (b : Bool) (k : Nat) {a : Nat} (h8 : a ≠ 8) (h9 : a ≠ 9) : loM M n x b k a = M a := by
  unfold loM; rw [mset_ne _ h9, mrow_n _ h8]
def loR (x : Int32) (L : Nat) : Int32 := if 0 ≤ x then (if L = 0 then -5 else 0) else -2
def sh1 (b : Nat → Int32) (k : Nat) : Nat → Int32 := fun j => if j < k then b (140 + j) else b j
theorem sh1_0 (b : Nat → Int32) : sh1 b 0 = b := by funext j; simp [sh1]
theorem sh1_s (b : Nat → Int32) (k : Nat) : upd (sh1 b k) k (b (140 + k)) = sh1 b (k + 1) := by
  funext j; simp only [upd, sh1]
  by_cases h : j = k
  · subst h; simp
  · by_cases h2 : j < k
    · simp [h, h2, Nat.lt_succ_of_lt h2]
    · have : ¬ j < k + 1 := by omega
      simp [h, h2, this]
/-- the places a .. a+k-1 out of f -/
def cp1 (b f : Nat → Int32) (a k : Nat) : Nat → Int32 := fun j => if a ≤ j ∧ j < a + k then f (j - a) else b j
theorem cp1_0 (b f : Nat → Int32) (a : Nat) : cp1 b f a 0 = b := by
  funext j; simp only [cp1]; rw [if_neg (by omega)]
theorem cp1_s (b f : Nat → Int32) (a k : Nat) : upd (cp1 b f a k) (a + k) (f k) = cp1 b f a (k + 1) := by
  funext j; simp only [upd, cp1]
  by_cases h : j = a + k
  · subst h; rw [if_pos rfl, if_pos (by omega), show a + k - a = k by omega]
  · rw [if_neg h]
    by_cases h2 : a ≤ j ∧ j < a + k
    · rw [if_pos h2, if_pos (by omega)]
    · rw [if_neg h2, if_neg (by omega)]
/-- the first k places out of f's places from a on -/
def cp2 (b f : Nat → Int32) (a k : Nat) : Nat → Int32 := fun j => if j < k then f (a + j) else b j
theorem cp2_0 (b f : Nat → Int32) (a : Nat) : cp2 b f a 0 = b := by funext j; simp [cp2]
theorem cp2_s (b f : Nat → Int32) (a k : Nat) : upd (cp2 b f a k) k (f (a + k)) = cp2 b f a (k + 1) := by
  funext j; simp only [upd, cp2]
  by_cases h : j = k
  · subst h; rw [if_pos rfl, if_pos (by omega)]
  · rw [if_neg h]
    by_cases h2 : j < k
    · rw [if_pos h2, if_pos (by omega)]
    · rw [if_neg h2, if_neg (by omega)]
def knB (b f : Nat → Int32) (kn : Nat) : Nat → Int32 := if kn = 6 then cp1 (sh1 b 700) f 700 140 else cp1 b f (140 * kn) 140
def knN (kn : Nat) : Nat := if kn = 6 then 6 else kn + 1
def knM (M : MS) (kn : Nat) : MS := mset (mrow M 2 (knB (M 2) (M 0) kn)) 3 0 (nI (knN kn))
theorem knM_k (M : MS) (kn : Nat) {a : Nat} (h2 : a ≠ 2) (h3 : a ≠ 3) : knM M kn a = M a := by
  unfold knM; rw [mset_ne _ h3, mrow_n _ h2]
theorem mset_mset (M : MS) (k j : Nat) (x y : Int32) : mset (mset M k j x) k j y = mset M k j y := by
  funext a b; simp only [mset]; split <;> rfl
theorem mset_comm (M : MS) {k a : Nat} (h : a ≠ k) (j b : Nat) (x y : Int32) : mset (mset M k j x) a b y = mset (mset M a b y) k j x := by
  funext u v; simp only [mset]
  by_cases h1 : u = a ∧ v = b
  · have : ¬ (u = k ∧ v = j) := fun z => h (h1.1.symm.trans z.1)
    simp [h1, this]; intro z; exact absurd z h
  · by_cases h2 : u = k ∧ v = j
    · rw [if_neg h1, if_pos h2, if_pos h2]
    · rw [if_neg h1, if_neg h2, if_neg h2, if_neg h1]
theorem mset_mrow_s (M : MS) (k j : Nat) (f : Nat → Int32) (x : Int32) : mset (mrow M k f) k j x = mrow M k (upd f j x) := by
  funext a b; by_cases h : a = k
  · subst h; simp [mset, mrow, upd]
  · simp [mset, mrow, h]
/-- a clock is hung as number n -/
def newC (f : Nat → Int32) (n : Nat) (h r d : Int32) : Nat → Int32 := upd (upd (upd (upd (upd (fun j => if 12 + 8 * n ≤ j ∧ j < 12 + 8 * n + 8 then 0 else f j) (12 + 8 * n + 0) h) (12 + 8 * n + 1) r) (12 + 8 * n + 2) d) (12 + 8 * n + 6) 1) 5 (nI (n + 1))
def zr1 (f : Nat → Int32) (n k : Nat) : Nat → Int32 := fun j => if 12 + 8 * n ≤ j ∧ j < 12 + 8 * n + k then 0 else f j
theorem zr1_0 (f : Nat → Int32) (n : Nat) : zr1 f n 0 = f := by funext j; simp only [zr1]; rw [if_neg (by omega)]
theorem zr1_s (f : Nat → Int32) (n k : Nat) : upd (zr1 f n k) (12 + 8 * n + k) 0 = zr1 f n (k + 1) := by
  funext j; simp only [upd, zr1]
  by_cases h : j = 12 + 8 * n + k
  · subst h; rw [if_pos rfl, if_pos (by omega)]
  · rw [if_neg h]
    by_cases h2 : 12 + 8 * n ≤ j ∧ j < 12 + 8 * n + k
    · rw [if_pos h2, if_pos (by omega)]
    · rw [if_neg h2, if_neg (by omega)]
/-- clocks off by more than told (4), that can't be wound (5), how often wound (7) -/
def sumN (f : Nat → Int32) (w : Int32) : Nat → Int32
  | 0 => 0
  | k + 1 => sumN f w k + (if ¬ w = 7 then (if ¬ w = 4 then (if canW f k = true then 0 else 1) else (if offB f k (f 0) = true then 1 else 0)) else f (12 + 8 * k + 7))
def mostN (f : Nat → Int32) : Nat → Int32
  | 0 => -6
  | k + 1 => if canW f k = true then mostN f k else if f (12 + 8 * k + 1) ≤ mostN f k then mostN f k else f (12 + 8 * k + 1)
/-- days until off, by going on: at most n more -/
def lastN (f : Nat → Int32) (c : Nat) : Nat → Nat → Int32
  | 0 => f
  | d + 1 => dayM (lastN f c d) c
def aheadN (v : Nat → Int32) (c : Nat) : Nat → Int32
  | 0 => 0
  | k + 1 => aheadN v c k + (if v k < v c then 1 else if v k = v c ∧ k < c then 1 else 0)
def hangR (f : Nat → Int32) (h u d : Int32) : Int32 := if inB h 0 99 = true then (if inB u 0 30 = true then (if inB d (-99) 99 = true then (if cn f = 16 then -4 else 0) else -2) else -2) else -2
def lddR (f : Nat → Int32) (u : Int32) : Int32 := if inB u 1 30 = true then (if ln f = 4 then -4 else 0) else -2
def passR (f : Nat → Int32) (d : Int32) : Int32 := if inB d 1 99 = true then (if f 4 + d ≤ 9999 then 0 else -5) else -2
end
section
set_option maxHeartbeats 4000000 in
set_option maxRecDepth 100000 in
theorem k_X6_in (l : Launch) (v lo hi : Int32) : Met l yX6_in wsX6_in ({ frames := 0, cells := 0, slots := 0, locals := 0 }) (sPre [.int v, .int lo, .int hi]) (sQi (fun r => (inB v lo hi = true ∧ r = 1) ∨ (inB v lo hi = false ∧ r = 0))) 0 0 (fun _ => False) := by
  refine Met.ofW (cc := cX6_in) (maxL := 3) (ret := (some .boolean)) (by decide) rfl ?_
  intro p e s m args below meth c s₁ B hml hv
  obtain ⟨rfl, _⟩ := hv
  have hx := B.exec
  have hb := B.bytes
  have hr := B.returns
  have hts := atoms_spec (ws := wsX6_in) B.pre
  have hown : s.vm.findClass RX6 = some m.cls := findClass_of_methodNamed B.named
  have hlocks := B.notSynchronized
  have hI : va_S (fun _ => False) s.heap s.heap [] := va_S.rf
  have hl := lv_entry ([.int v, .int lo, .int hi]) (n := 3) (Nat.le_of_ble_eq_true rfl)
  rw [lg_entry_eq]
  generalize (lg_sl ([.int v, .int lo, .int hi]) ++ List.replicate (3 - (lg_sl ([.int v, .int lo, .int hi])).length) Slot.unset).toArray = ls at hl ⊢
  have hl : lv_has ls 3 [(0, .int v), (1, .int lo), (2, .int hi)] := hl
  refine lv_iload_n hx hb dX6_in_0 rfl (lv_at hl 0 rfl) ?_
  refine lv_iload_n hx hb dX6_in_1 rfl (lv_at hl 1 rfl) ?_
  refine lv_icmp_lt (tgt := 14) hx hb dX6_in_2 (by decide) (fun c1 => ?_) (fun c1 => ?_)
  · skip
    refine lv_iconst (v := 0) hx hb dX6_in_14 (by decide) ?_
    exact s_zret (v := 0) hx hb hr (by first | rfl | decide) hI (by simp [inB, c1]) dX6_in_15 hlocks
  · skip
    refine lv_iload_n hx hb dX6_in_5 rfl (lv_at hl 0 rfl) ?_
    refine lv_iload_n hx hb dX6_in_6 rfl (lv_at hl 2 rfl) ?_
    refine lv_icmp_gt (tgt := 14) hx hb dX6_in_7 (by decide) (fun c2 => ?_) (fun c2 => ?_)
    · skip
      refine lv_iconst (v := 0) hx hb dX6_in_14 (by decide) ?_
      exact s_zret (v := 0) hx hb hr (by first | rfl | decide) hI (by simp [inB, c1, c2]) dX6_in_15 hlocks
    · skip
      refine lv_iconst (v := 1) hx hb dX6_in_10 (by decide) ?_
      refine lv_goto (tgt := 15) hx hb dX6_in_11 (by decide) ?_
      exact s_zret (v := 1) hx hb hr (by first | rfl | decide) hI (by simp [inB, c1, c2]) dX6_in_15 hlocks

set_option maxHeartbeats 4000000 in
set_option maxRecDepth 100000 in
theorem k_X6_size (l : Launch) (v : Int32) : Met l yX6_size wsX6_size ({ frames := 0, cells := 0, slots := 0, locals := 0 }) (sPre [.int v]) (sQi (fun r => r = jabs v)) 0 0 (fun _ => False) := by
  refine Met.ofW (cc := cX6_size) (maxL := 1) (ret := (some .int)) (by decide) rfl ?_
  intro p e s m args below meth c s₁ B hml hv
  obtain ⟨rfl, _⟩ := hv
  have hx := B.exec
  have hb := B.bytes
  have hr := B.returns
  have hts := atoms_spec (ws := wsX6_size) B.pre
  have hown : s.vm.findClass RX6 = some m.cls := findClass_of_methodNamed B.named
  have hlocks := B.notSynchronized
  have hI : va_S (fun _ => False) s.heap s.heap [] := va_S.rf
  have hl := lv_entry ([.int v]) (n := 1) (Nat.le_of_ble_eq_true rfl)
  rw [lg_entry_eq]
  generalize (lg_sl ([.int v]) ++ List.replicate (1 - (lg_sl ([.int v])).length) Slot.unset).toArray = ls at hl ⊢
  have hl : lv_has ls 1 [(0, .int v)] := hl
  refine lv_iload_n hx hb dX6_size_0 rfl (lv_at hl 0 rfl) ?_
  refine lv_if_ge (tgt := 9) hx hb dX6_size_1 (by decide) (fun c1 => ?_) (fun c1 => ?_)
  · skip
    refine lv_iload_n hx hb dX6_size_9 rfl (lv_at hl 0 rfl) ?_
    exact s_iret (v := v) hx hb hr hI ((if_pos c1).symm) dX6_size_10 hlocks
  · skip
    refine lv_iload_n hx hb dX6_size_4 rfl (lv_at hl 0 rfl) ?_
    refine lv_ineg hx hb dX6_size_5 ?_
    refine lv_goto (tgt := 10) hx hb dX6_size_6 (by decide) ?_
    exact s_iret (v := -v) hx hb hr hI ((if_neg c1).symm) dX6_size_10 hlocks

set_option maxHeartbeats 4000000 in
set_option maxRecDepth 100000 in
theorem k_X6_at (l : Launch) (i j : Nat) : Met l yX6_at wsX6_at ({ frames := 0, cells := 0, slots := 0, locals := 0 }) (sPre [.int (nI i), .int (nI j)]) (sQi (fun r => r = nI (12 + 8 * i + j))) 0 0 (fun _ => False) := by
  refine Met.ofW (cc := cX6_at) (maxL := 2) (ret := (some .int)) (by decide) rfl ?_
  intro p e s m args below meth c s₁ B hml hv
  obtain ⟨rfl, _⟩ := hv
  have hx := B.exec
  have hb := B.bytes
  have hr := B.returns
  have hts := atoms_spec (ws := wsX6_at) B.pre
  have hown : s.vm.findClass RX6 = some m.cls := findClass_of_methodNamed B.named
  have hlocks := B.notSynchronized
  have hI : va_S (fun _ => False) s.heap s.heap [] := va_S.rf
  have hl := lv_entry ([.int (nI i), .int (nI j)]) (n := 2) (Nat.le_of_ble_eq_true rfl)
  rw [lg_entry_eq]
  generalize (lg_sl ([.int (nI i), .int (nI j)]) ++ List.replicate (2 - (lg_sl ([.int (nI i), .int (nI j)])).length) Slot.unset).toArray = ls at hl ⊢
  have hl : lv_has ls 2 [(0, .int (nI i)), (1, .int (nI j))] := hl
  refine lv_bipush (v := 12) hx hb dX6_at_0 (by decide) ?_
  refine lv_bipush (v := 8) hx hb dX6_at_2 (by decide) ?_
  refine lv_iload_n hx hb dX6_at_4 rfl (lv_at hl 0 rfl) ?_
  refine lv_imul hx hb dX6_at_5 ?_
  refine lv_re (y := nI (8 * i)) (pk_mul (8) (i)) ?_
  refine lv_iadd hx hb dX6_at_6 ?_
  refine lv_re (y := nI (12 + (8 * i))) (nI_add (12) (8 * i)) ?_
  refine lv_iload_n hx hb dX6_at_7 rfl (lv_at hl 1 rfl) ?_
  refine lv_iadd hx hb dX6_at_8 ?_
  refine lv_re (y := nI (12 + (8 * i) + j)) (nI_add (12 + (8 * i)) (j)) ?_
  exact s_iret (v := nI (12 + (8 * i) + j)) hx hb hr hI (rfl) dX6_at_9 hlocks

set_option maxHeartbeats 4000000 in
set_option maxRecDepth 100000 in
theorem k_X6_many (l : Launch) (x : Int32) : Met l yX6_many wsX6_many ({ frames := 0, cells := 0, slots := 0, locals := 0 }) (sPre [.int x]) (sQi (fun r => r = manyN x 16)) 0 0 (fun _ => False) := by
  refine Met.ofW (cc := cX6_many) (maxL := 3) (ret := (some .int)) (by decide) rfl ?_
  intro p e s m args below meth c s₁ B hml hv
  obtain ⟨rfl, _⟩ := hv
  have hx := B.exec
  have hb := B.bytes
  have hr := B.returns
  have hts := atoms_spec (ws := wsX6_many) B.pre
  have hown : s.vm.findClass RX6 = some m.cls := findClass_of_methodNamed B.named
  have hlocks := B.notSynchronized
  have hI : va_S (fun _ => False) s.heap s.heap [] := va_S.rf
  have hl := lv_entry ([.int x]) (n := 3) (Nat.le_of_ble_eq_true rfl)
  rw [lg_entry_eq]
  generalize (lg_sl ([.int x]) ++ List.replicate (3 - (lg_sl ([.int x])).length) Slot.unset).toArray = ls at hl ⊢
  have hl : lv_has ls 3 [(0, .int x)] := hl
  refine lv_iconst (v := 0) hx hb dX6_many_0 (by decide) ?_
  refine lv_istore_n (lv' := [(1, .int 0), (0, .int x)]) hx hb dX6_many_1 rfl hl (by decide) rfl (fun ls hl => ?_)
  refine lv_iconst (v := 0) hx hb dX6_many_2 (by decide) ?_
  refine lv_istore_n (lv' := [(2, .int 0), (1, .int 0), (0, .int x)]) hx hb dX6_many_3 rfl hl (by decide) rfl (fun ls hl => ?_)
  have L4 : ∀ (fuel : Nat) (k : Nat) (h1 : k ≤ 16) (h2 : 16 < fuel + k) (H : Heap) (locs : List Loc) (ls : Array Slot), va_S (fun _ => False) s.heap H locs → lv_has ls 3 [(2, .int (nI k)), (1, .int (manyN x k)), (0, .int x)] → wk p l e wsX6_many { frames := 0, cells := 0, slots := 0, locals := 0 } s m [.int x] below meth c H locs (sQi (fun r => r = manyN x 16)) (fun _ => False) (F0 m 4 ls []) := by
    intro fuel
    induction fuel with
    | zero =>
      intro k h1 h2 H locs ls hI hl
      exact absurd h2 (by omega)
    | succ fuel ih =>
      intro k h1 h2 H locs ls hI hl
      refine lv_iload_n hx hb dX6_many_4 rfl (lv_at hl 0 rfl) ?_
      refine lv_bipush (v := 16) hx hb dX6_many_5 (by decide) ?_
      refine lv_icmp_ge (tgt := 24) hx hb dX6_many_7 (by decide) (fun c1 => ?_) (fun c1 => ?_)
      · skip
        have nc1 : 16 ≤ k := (nI_leI (a := 16) (b := k) (by omega) (by omega)).mp c1
        refine lv_iload_n hx hb dX6_many_24 rfl (lv_at hl 1 rfl) ?_
        exact s_iret (v := manyN x k) hx hb hr hI (by rw [show k = 16 by omega]) dX6_many_25 hlocks
      · skip
        have nc1 : ¬ (16 ≤ k) := fun h => c1 ((nI_leI (a := 16) (b := k) (by omega) (by omega)).mpr h)
        refine lv_iload_n hx hb dX6_many_10 rfl (lv_at hl 1 rfl) ?_
        refine lv_iload_n hx hb dX6_many_11 rfl (lv_at hl 2 rfl) ?_
        refine lv_iload_n hx hb dX6_many_12 rfl (lv_at hl 0 rfl) ?_
        refine lv_ishr hx hb dX6_many_13 ?_
        refine lv_iconst (v := 1) hx hb dX6_many_14 (by decide) ?_
        refine lv_iand hx hb dX6_many_15 ?_
        refine lv_iadd hx hb dX6_many_16 ?_
        refine lv_istore_n (lv' := [(1, .int ((manyN x k) + ((x >>> ((nI k) &&& 31)) &&& 1))), (2, .int (nI k)), (0, .int x)]) hx hb dX6_many_17 rfl hl (by decide) rfl (fun ls hl => ?_)
        refine lv_iinc (v := nI (k + 1)) (lv' := [(2, .int (nI (k + 1))), (1, .int ((manyN x k) + ((x >>> ((nI k) &&& 31)) &&& 1))), (0, .int x)]) hx hb dX6_many_18 hl (k := 1) rfl (by rw [show Int32.ofInt 1 = nI 1 from rfl, nI_add]) (by decide) rfl (fun ls hl => ?_)
        refine lv_goto (tgt := 4) hx hb dX6_many_21 (by decide) ?_
        exact ih (k + 1) (by omega) (by omega) _ _ _ hI (lv_sub hl [0, 1, 2] rfl)
  exact L4 17 0 (by omega) (by omega) _ _ _ hI (lv_sub hl [0, 1, 2] rfl)

set_option maxHeartbeats 4000000 in
set_option maxRecDepth 100000 in
theorem k_X6_isClock (l : Launch) (dd : va_G) (g : Nat → ClassId) (q : Nat → Nat) (A : Nat → Prop) (hA : mA A q) (M : MS) (x : Int32) (hW : Wk (M 0)) : Met l yX6_isClock wsX6_isClock ({ frames := 1, cells := 0, slots := 0, locals := 22 }) (mPre dd g q M [.ref (q 0), .int x]) (mQi dd g q A (fun r M' => (((∃ i, isC (M 0) x i) ∧ r = 1) ∨ ((¬ ∃ i, isC (M 0) x i) ∧ r = 0)) ∧ M' = M)) 0 0 A := by
  refine Met.ofW (cc := cX6_isClock) (maxL := 2) (ret := (some .boolean)) (by decide) rfl ?_
  intro p e s m args below meth c s₁ B hml hv
  obtain ⟨rfl, hP0, hK⟩ := hv
  have hx := B.exec
  have hb := B.bytes
  have hr := B.returns
  have hts := atoms_spec (ws := wsX6_isClock) B.pre
  have hown : s.vm.findClass RX6 = some m.cls := findClass_of_methodNamed B.named
  have hlocks := B.notSynchronized
  have hin : ∀ w ∈ wsX60, w ∈ wsX6_isClock := by decide +kernel
  have hI : mI dd g q A s.heap s.heap [] M := ⟨hP0, va_S.rf⟩
  have hl := lv_entry ([.ref (q 0), .int x]) (n := 2) (Nat.le_of_ble_eq_true rfl)
  rw [lg_entry_eq]
  generalize (lg_sl ([.ref (q 0), .int x]) ++ List.replicate (2 - (lg_sl ([.ref (q 0), .int x])).length) Slot.unset).toArray = ls at hl ⊢
  have hl : lv_has ls 2 [(0, .ref (q 0)), (1, .int x)] := hl
  have hc16 := hW.2.1
  have hl4 := hW.2.2.2
  refine lv_iload_n hx hb dX6_isClock_0 rfl (lv_at hl 1 rfl) ?_
  refine lv_iconst (v := 0) hx hb dX6_isClock_1 (by decide) ?_
  refine lv_aload_n hx hb dX6_isClock_2 rfl (lv_at hl 0 rfl) ?_
  refine m_get hx hb hts hin hown hK hI 0 (by decide) (hts (.fieldLink RX6 7 "WinderLaddersModel" "s" "[I") (by decide +kernel)) (v := .ref (q 1)) rfl dX6_isClock_3 ?_
  refine lv_iconst (v := 5) hx hb dX6_isClock_6 (by decide) ?_
  refine m_ald hx hb hK hI 0 (by decide) (5) (by show _ < 140; omega) rfl (v := M 0 5) rfl dX6_isClock_7 ?_
  refine lv_iconst (v := 1) hx hb dX6_isClock_8 (by decide) ?_
  refine lv_isub hx hb dX6_isClock_9 ?_
  refine m_calls (As := [.int x, .int 0, .int ((M 0 5) - 1)]) (rest := []) hx hb hml hown hts hI (k_X6_in l x 0 ((M 0 5) - 1)) (va_cwS 3 hts gX6_isClock_X6_in rfl rfl rfl (by decide +kernel) ⟨Nat.le_of_ble_eq_true rfl, Nat.le_of_ble_eq_true rfl⟩) rfl hl (Nat.le_of_ble_eq_true rfl) ⟨Nat.zero_le _, Nat.zero_le _⟩ dX6_isClock_10 rfl (fun r H locs h2 hI => ?_)
  rcases h2 with ⟨b1, rfl⟩ | ⟨b1, rfl⟩
  · skip
    exact m_zret (v := 1) hx hb hr (by first | rfl | decide) hI (⟨Or.inl ⟨(isC_iff hW x).mp b1, rfl⟩, rfl⟩) dX6_isClock_13 hlocks
  · skip
    exact m_zret (v := 0) hx hb hr (by first | rfl | decide) hI (⟨Or.inr ⟨fun h => absurd ((isC_iff hW x).mpr h) (by rw [b1]; decide), rfl⟩, rfl⟩) dX6_isClock_13 hlocks

set_option maxHeartbeats 4000000 in
set_option maxRecDepth 100000 in
theorem k_X6_rate (l : Launch) (dd : va_G) (g : Nat → ClassId) (q : Nat → Nat) (A : Nat → Prop) (hA : mA A q) (M : MS) (c0 : Nat) (hc : c0 < 16) : Met l yX6_rate wsX6_rate ({ frames := 1, cells := 0, slots := 0, locals := 21 }) (mPre dd g q M [.ref (q 0), .int (nI c0)]) (mQi dd g q A (fun r M' => r = rt (M 0) c0 ∧ M' = M)) 0 0 A := by
  refine Met.ofW (cc := cX6_rate) (maxL := 2) (ret := (some .int)) (by decide) rfl ?_
  intro p e s m args below meth c s₁ B hml hv
  obtain ⟨rfl, hP0, hK⟩ := hv
  have hx := B.exec
  have hb := B.bytes
  have hr := B.returns
  have hts := atoms_spec (ws := wsX6_rate) B.pre
  have hown : s.vm.findClass RX6 = some m.cls := findClass_of_methodNamed B.named
  have hlocks := B.notSynchronized
  have hin : ∀ w ∈ wsX60, w ∈ wsX6_rate := by decide +kernel
  have hI : mI dd g q A s.heap s.heap [] M := ⟨hP0, va_S.rf⟩
  have hl := lv_entry ([.ref (q 0), .int (nI c0)]) (n := 2) (Nat.le_of_ble_eq_true rfl)
  rw [lg_entry_eq]
  generalize (lg_sl ([.ref (q 0), .int (nI c0)]) ++ List.replicate (2 - (lg_sl ([.ref (q 0), .int (nI c0)])).length) Slot.unset).toArray = ls at hl ⊢
  have hl : lv_has ls 2 [(0, .ref (q 0)), (1, .int (nI c0))] := hl
  refine lv_aload_n hx hb dX6_rate_0 rfl (lv_at hl 0 rfl) ?_
  refine m_get hx hb hts hin hown hK hI 0 (by decide) (hts (.fieldLink RX6 7 "WinderLaddersModel" "s" "[I") (by decide +kernel)) (v := .ref (q 1)) rfl dX6_rate_1 ?_
  refine lv_iload_n hx hb dX6_rate_4 rfl (lv_at hl 1 rfl) ?_
  refine lv_iconst (v := 2) hx hb dX6_rate_5 (by decide) ?_
  refine m_calls (As := [.int (nI c0), .int 2]) (rest := [.ref (q 1)]) hx hb hml hown hts hI (k_X6_at l (c0) (2)) (va_cwS 2 hts gX6_rate_X6_at rfl rfl rfl (by decide +kernel) ⟨Nat.le_of_ble_eq_true rfl, Nat.le_of_ble_eq_true rfl⟩) rfl hl (Nat.le_of_ble_eq_true rfl) ⟨Nat.zero_le _, Nat.zero_le _⟩ dX6_rate_6 rfl (fun r H locs h1 hI => ?_)
  subst h1
  refine m_ald hx hb hK hI 0 (by decide) (12 + 8 * c0 + 2) (by show _ < 140; omega) rfl (v := M 0 (12 + 8 * c0 + 2)) rfl dX6_rate_9 ?_
  refine lv_iconst (v := 3) hx hb dX6_rate_10 (by decide) ?_
  refine lv_aload_n hx hb dX6_rate_11 rfl (lv_at hl 0 rfl) ?_
  refine m_get hx hb hts hin hown hK hI 0 (by decide) (hts (.fieldLink RX6 7 "WinderLaddersModel" "s" "[I") (by decide +kernel)) (v := .ref (q 1)) rfl dX6_rate_12 ?_
  refine lv_iload_n hx hb dX6_rate_15 rfl (lv_at hl 1 rfl) ?_
  refine lv_iconst (v := 3) hx hb dX6_rate_16 (by decide) ?_
  refine m_calls (As := [.int (nI c0), .int 3]) (rest := [.ref (q 1), .int 3, .int (M 0 (12 + 8 * c0 + 2))]) hx hb hml hown hts hI (k_X6_at l (c0) (3)) (va_cwS 2 hts gX6_rate_X6_at rfl rfl rfl (by decide +kernel) ⟨Nat.le_of_ble_eq_true rfl, Nat.le_of_ble_eq_true rfl⟩) rfl hl (Nat.le_of_ble_eq_true rfl) ⟨Nat.zero_le _, Nat.zero_le _⟩ dX6_rate_17 rfl (fun r H locs h2 hI => ?_)
  subst h2
  refine m_ald hx hb hK hI 0 (by decide) (12 + 8 * c0 + 3) (by show _ < 140; omega) rfl (v := M 0 (12 + 8 * c0 + 3)) rfl dX6_rate_20 ?_
  refine lv_imul hx hb dX6_rate_21 ?_
  refine lv_iadd hx hb dX6_rate_22 ?_
  exact m_iret (v := (M 0 (12 + 8 * c0 + 2)) + (3 * (M 0 (12 + 8 * c0 + 3)))) hx hb hr hI (⟨rfl, rfl⟩) dX6_rate_23 hlocks

set_option maxHeartbeats 4000000 in
set_option maxRecDepth 100000 in
theorem k_X6_isOff (l : Launch) (dd : va_G) (g : Nat → ClassId) (q : Nat → Nat) (A : Nat → Prop) (hA : mA A q) (M : MS) (c0 : Nat) (hc : c0 < 16) : Met l yX6_isOff wsX6_isOff ({ frames := 1, cells := 0, slots := 0, locals := 21 }) (mPre dd g q M [.ref (q 0), .int (nI c0)]) (mQi dd g q A (fun r M' => ((offB (M 0) c0 (M 0 0) = true ∧ r = 1) ∨ (offB (M 0) c0 (M 0 0) = false ∧ r = 0)) ∧ M' = M)) 0 0 A := by
  refine Met.ofW (cc := cX6_isOff) (maxL := 2) (ret := (some .boolean)) (by decide) rfl ?_
  intro p e s m args below meth c s₁ B hml hv
  obtain ⟨rfl, hP0, hK⟩ := hv
  have hx := B.exec
  have hb := B.bytes
  have hr := B.returns
  have hts := atoms_spec (ws := wsX6_isOff) B.pre
  have hown : s.vm.findClass RX6 = some m.cls := findClass_of_methodNamed B.named
  have hlocks := B.notSynchronized
  have hin : ∀ w ∈ wsX60, w ∈ wsX6_isOff := by decide +kernel
  have hI : mI dd g q A s.heap s.heap [] M := ⟨hP0, va_S.rf⟩
  have hl := lv_entry ([.ref (q 0), .int (nI c0)]) (n := 2) (Nat.le_of_ble_eq_true rfl)
  rw [lg_entry_eq]
  generalize (lg_sl ([.ref (q 0), .int (nI c0)]) ++ List.replicate (2 - (lg_sl ([.ref (q 0), .int (nI c0)])).length) Slot.unset).toArray = ls at hl ⊢
  have hl : lv_has ls 2 [(0, .ref (q 0)), (1, .int (nI c0))] := hl
  refine lv_aload_n hx hb dX6_isOff_0 rfl (lv_at hl 0 rfl) ?_
  refine m_get hx hb hts hin hown hK hI 0 (by decide) (hts (.fieldLink RX6 7 "WinderLaddersModel" "s" "[I") (by decide +kernel)) (v := .ref (q 1)) rfl dX6_isOff_1 ?_
  refine lv_iload_n hx hb dX6_isOff_4 rfl (lv_at hl 1 rfl) ?_
  refine lv_iconst (v := 4) hx hb dX6_isOff_5 (by decide) ?_
  refine m_calls (As := [.int (nI c0), .int 4]) (rest := [.ref (q 1)]) hx hb hml hown hts hI (k_X6_at l (c0) (4)) (va_cwS 2 hts gX6_isOff_X6_at rfl rfl rfl (by decide +kernel) ⟨Nat.le_of_ble_eq_true rfl, Nat.le_of_ble_eq_true rfl⟩) rfl hl (Nat.le_of_ble_eq_true rfl) ⟨Nat.zero_le _, Nat.zero_le _⟩ dX6_isOff_6 rfl (fun r H locs h1 hI => ?_)
  subst h1
  refine m_ald hx hb hK hI 0 (by decide) (12 + 8 * c0 + 4) (by show _ < 140; omega) rfl (v := M 0 (12 + 8 * c0 + 4)) rfl dX6_isOff_9 ?_
  refine m_calls (As := [.int (M 0 (12 + 8 * c0 + 4))]) (rest := []) hx hb hml hown hts hI (k_X6_size l (M 0 (12 + 8 * c0 + 4))) (va_cwS 1 hts gX6_isOff_X6_size rfl rfl rfl (by decide +kernel) ⟨Nat.le_of_ble_eq_true rfl, Nat.le_of_ble_eq_true rfl⟩) rfl hl (Nat.le_of_ble_eq_true rfl) ⟨Nat.zero_le _, Nat.zero_le _⟩ dX6_isOff_10 rfl (fun r H locs h2 hI => ?_)
  subst h2
  refine lv_aload_n hx hb dX6_isOff_13 rfl (lv_at hl 0 rfl) ?_
  refine m_get hx hb hts hin hown hK hI 0 (by decide) (hts (.fieldLink RX6 7 "WinderLaddersModel" "s" "[I") (by decide +kernel)) (v := .ref (q 1)) rfl dX6_isOff_14 ?_
  refine lv_iconst (v := 0) hx hb dX6_isOff_17 (by decide) ?_
  refine m_ald hx hb hK hI 0 (by decide) (0) (by show _ < 140; omega) rfl (v := M 0 0) rfl dX6_isOff_18 ?_
  refine lv_icmp_le (tgt := 26) hx hb dX6_isOff_19 (by decide) (fun c3 => ?_) (fun c3 => ?_)
  · skip
    refine lv_iconst (v := 0) hx hb dX6_isOff_26 (by decide) ?_
    exact m_zret (v := 0) hx hb hr (by first | rfl | decide) hI (⟨by simp [offB, c3], rfl⟩) dX6_isOff_27 hlocks
  · skip
    refine lv_iconst (v := 1) hx hb dX6_isOff_22 (by decide) ?_
    refine lv_goto (tgt := 27) hx hb dX6_isOff_23 (by decide) ?_
    exact m_zret (v := 1) hx hb hr (by first | rfl | decide) hI (⟨by simp [offB, c3], rfl⟩) dX6_isOff_27 hlocks

set_option maxHeartbeats 4000000 in
set_option maxRecDepth 100000 in
theorem k_X6_ladderOf (l : Launch) (dd : va_G) (g : Nat → ClassId) (q : Nat → Nat) (A : Nat → Prop) (hA : mA A q) (M : MS) (c0 : Nat) (hc : c0 < 16) (hW : Wk (M 0)) : Met l yX6_ladderOf wsX6_ladderOf ({ frames := 1, cells := 0, slots := 0, locals := 21 }) (mPre dd g q M [.ref (q 0), .int (nI c0)]) (mQi dd g q A (fun r M' => r = o2i (ladF (M 0) c0) ∧ M' = M)) 0 0 A := by
  refine Met.ofW (cc := cX6_ladderOf) (maxL := 5) (ret := (some .int)) (by decide) rfl ?_
  intro p e s m args below meth c s₁ B hml hv
  obtain ⟨rfl, hP0, hK⟩ := hv
  have hx := B.exec
  have hb := B.bytes
  have hr := B.returns
  have hts := atoms_spec (ws := wsX6_ladderOf) B.pre
  have hown : s.vm.findClass RX6 = some m.cls := findClass_of_methodNamed B.named
  have hlocks := B.notSynchronized
  have hin : ∀ w ∈ wsX60, w ∈ wsX6_ladderOf := by decide +kernel
  have hI : mI dd g q A s.heap s.heap [] M := ⟨hP0, va_S.rf⟩
  have hl := lv_entry ([.ref (q 0), .int (nI c0)]) (n := 5) (Nat.le_of_ble_eq_true rfl)
  rw [lg_entry_eq]
  generalize (lg_sl ([.ref (q 0), .int (nI c0)]) ++ List.replicate (5 - (lg_sl ([.ref (q 0), .int (nI c0)])).length) Slot.unset).toArray = ls at hl ⊢
  have hl : lv_has ls 5 [(0, .ref (q 0)), (1, .int (nI c0))] := hl
  have hc16 := hW.2.1
  have hl4 := hW.2.2.2
  refine lv_bipush (v := (-6)) hx hb dX6_ladderOf_0 (by decide) ?_
  refine lv_istore_n (lv' := [(2, .int ((-6))), (0, .ref (q 0)), (1, .int (nI c0))]) hx hb dX6_ladderOf_2 rfl hl (by decide) rfl (fun ls hl => ?_)
  refine lv_iconst (v := 0) hx hb dX6_ladderOf_3 (by decide) ?_
  refine lv_istore_n (lv' := [(3, .int 0), (2, .int ((-6))), (0, .ref (q 0)), (1, .int (nI c0))]) hx hb dX6_ladderOf_4 rfl hl (by decide) rfl (fun ls hl => ?_)
  have L5 : ∀ (fuel : Nat) (k : Nat) (o : Option Nat) (h1 : k ≤ ln (M 0)) (h2 : ln (M 0) < fuel + k) (ho : ladP (M 0) (M 0 (12 + 8 * c0 + 1)) k = o) (H : Heap) (locs : List Loc) (ls : Array Slot), mI dd g q A s.heap H locs M → lv_has ls 5 [(3, .int (nI k)), (2, .int (o2i o)), (0, .ref (q 0)), (1, .int (nI c0))] → wk p l e wsX6_ladderOf { frames := 1, cells := 0, slots := 0, locals := 21 } s m [.ref (q 0), .int (nI c0)] below meth c H locs (mQi dd g q A (fun r M' => r = o2i (ladF (M 0) c0) ∧ M' = M)) (A) (F0 m 5 ls []) := by
    intro fuel
    induction fuel with
    | zero =>
      intro k o h1 h2 ho H locs ls hI hl
      exact absurd h2 (by omega)
    | succ fuel ih =>
      intro k o h1 h2 ho H locs ls hI hl
      rcases o with _ | p1
      · have hl : lv_has ls 5 [(3, .int (nI k)), (2, .int ((-6))), (0, .ref (q 0)), (1, .int (nI c0))] := hl
        refine lv_iload_n hx hb dX6_ladderOf_5 rfl (lv_at hl 0 rfl) ?_
        refine lv_aload_n hx hb dX6_ladderOf_6 rfl (lv_at hl 2 rfl) ?_
        refine m_get hx hb hts hin hown hK hI 0 (by decide) (hts (.fieldLink RX6 7 "WinderLaddersModel" "s" "[I") (by decide +kernel)) (v := .ref (q 1)) rfl dX6_ladderOf_7 ?_
        refine lv_bipush (v := 6) hx hb dX6_ladderOf_10 (by decide) ?_
        refine m_ald hx hb hK hI 0 (by decide) (6) (by show _ < 140; omega) rfl (v := nI (ln (M 0))) hW.2.2.1 dX6_ladderOf_12 ?_
        refine lv_icmp_ge (tgt := 102) hx hb dX6_ladderOf_13 (by decide) (fun c1 => ?_) (fun c1 => ?_)
        · skip
          have nc1 : ln (M 0) ≤ k := (nI_leI (a := ln (M 0)) (b := k) (by omega) (by omega)).mp c1
          refine lv_iload_n hx hb dX6_ladderOf_102 rfl (lv_at hl 1 rfl) ?_
          exact m_iret (v := (-6)) hx hb hr hI (⟨by rw [show k = ln (M 0) by omega] at ho; simp only [ladF, ho]; rfl, rfl⟩) dX6_ladderOf_103 hlocks
        · skip
          have nc1 : ¬ (ln (M 0) ≤ k) := fun h => c1 ((nI_leI (a := ln (M 0)) (b := k) (by omega) (by omega)).mpr h)
          refine lv_aload_n hx hb dX6_ladderOf_16 rfl (lv_at hl 2 rfl) ?_
          refine m_get hx hb hts hin hown hK hI 0 (by decide) (hts (.fieldLink RX6 7 "WinderLaddersModel" "s" "[I") (by decide +kernel)) (v := .ref (q 1)) rfl dX6_ladderOf_17 ?_
          refine lv_iload_n hx hb dX6_ladderOf_20 rfl (lv_at hl 3 rfl) ?_
          refine lv_iconst (v := 1) hx hb dX6_ladderOf_21 (by decide) ?_
          refine m_calls (As := [.int (nI c0), .int 1]) (rest := [.ref (q 1)]) hx hb hml hown hts hI (k_X6_at l (c0) (1)) (va_cwS 2 hts gX6_ladderOf_X6_at rfl rfl rfl (by decide +kernel) ⟨Nat.le_of_ble_eq_true rfl, Nat.le_of_ble_eq_true rfl⟩) rfl hl (Nat.le_of_ble_eq_true rfl) ⟨Nat.zero_le _, Nat.zero_le _⟩ dX6_ladderOf_22 rfl (fun r H locs h2 hI => ?_)
          subst h2
          refine m_ald hx hb hK hI 0 (by decide) (12 + 8 * c0 + 1) (by show _ < 140; omega) rfl (v := M 0 (12 + 8 * c0 + 1)) rfl dX6_ladderOf_25 ?_
          refine lv_if_le (tgt := 55) hx hb dX6_ladderOf_26 (by decide) (fun c3 => ?_) (fun c3 => ?_)
          · skip
            refine lv_iconst (v := 0) hx hb dX6_ladderOf_55 (by decide) ?_
            refine lv_istore (lv' := [(4, .int 0), (3, .int (nI k)), (2, .int ((-6))), (0, .ref (q 0)), (1, .int (nI c0))]) hx hb dX6_ladderOf_56 hl (by decide) rfl (fun ls hl => ?_)
            refine lv_iload hx hb dX6_ladderOf_58 (lv_at hl 0 rfl) ?_
            refine lv_if_eq (tgt := 94) hx hb dX6_ladderOf_60 (by decide) (fun _ => ?_) (fun c4 => absurd (by decide) c4)
            refine lv_iload_n hx hb dX6_ladderOf_94 rfl (lv_at hl 2 rfl) ?_
            refine lv_istore_n (lv' := [(2, .int ((-6))), (4, .int 0), (3, .int (nI k)), (0, .ref (q 0)), (1, .int (nI c0))]) hx hb dX6_ladderOf_95 rfl hl (by decide) rfl (fun ls hl => ?_)
            refine lv_iinc (v := nI (k + 1)) (lv' := [(3, .int (nI (k + 1))), (2, .int ((-6))), (4, .int 0), (0, .ref (q 0)), (1, .int (nI c0))]) hx hb dX6_ladderOf_96 hl (k := 2) rfl (by rw [show Int32.ofInt 1 = nI 1 from rfl, nI_add]) (by decide) rfl (fun ls hl => ?_)
            refine lv_goto (tgt := 5) hx hb dX6_ladderOf_99 (by decide) ?_
            exact ih (k + 1) none (by omega) (by omega) (by simp [ladP, -Int32.not_le, -Int32.not_lt, ho, c1, nc1, c3]) _ _ _ hI (lv_sub hl [0, 1, 3, 4] rfl)
          · skip
            refine lv_aload_n hx hb dX6_ladderOf_29 rfl (lv_at hl 2 rfl) ?_
            refine m_get hx hb hts hin hown hK hI 0 (by decide) (hts (.fieldLink RX6 7 "WinderLaddersModel" "s" "[I") (by decide +kernel)) (v := .ref (q 1)) rfl dX6_ladderOf_30 ?_
            refine lv_bipush (v := 8) hx hb dX6_ladderOf_33 (by decide) ?_
            refine lv_iload_n hx hb dX6_ladderOf_35 rfl (lv_at hl 0 rfl) ?_
            refine lv_iadd hx hb dX6_ladderOf_36 ?_
            refine lv_re (y := nI (8 + k)) (nI_add (8) (k)) ?_
            refine m_ald hx hb hK hI 0 (by decide) (8 + k) (by show _ < 140; omega) rfl (v := M 0 (8 + k)) rfl dX6_ladderOf_37 ?_
            refine lv_aload_n hx hb dX6_ladderOf_38 rfl (lv_at hl 2 rfl) ?_
            refine m_get hx hb hts hin hown hK hI 0 (by decide) (hts (.fieldLink RX6 7 "WinderLaddersModel" "s" "[I") (by decide +kernel)) (v := .ref (q 1)) rfl dX6_ladderOf_39 ?_
            refine lv_iload_n hx hb dX6_ladderOf_42 rfl (lv_at hl 3 rfl) ?_
            refine lv_iconst (v := 1) hx hb dX6_ladderOf_43 (by decide) ?_
            refine m_calls (As := [.int (nI c0), .int 1]) (rest := [.ref (q 1), .int (M 0 (8 + k))]) hx hb hml hown hts hI (k_X6_at l (c0) (1)) (va_cwS 2 hts gX6_ladderOf_X6_at rfl rfl rfl (by decide +kernel) ⟨Nat.le_of_ble_eq_true rfl, Nat.le_of_ble_eq_true rfl⟩) rfl hl (Nat.le_of_ble_eq_true rfl) ⟨Nat.zero_le _, Nat.zero_le _⟩ dX6_ladderOf_44 rfl (fun r H locs h5 hI => ?_)
            subst h5
            refine m_ald hx hb hK hI 0 (by decide) (12 + 8 * c0 + 1) (by show _ < 140; omega) rfl (v := M 0 (12 + 8 * c0 + 1)) rfl dX6_ladderOf_47 ?_
            refine lv_icmp_lt (tgt := 55) hx hb dX6_ladderOf_48 (by decide) (fun c6 => ?_) (fun c6 => ?_)
            · skip
              refine lv_iconst (v := 0) hx hb dX6_ladderOf_55 (by decide) ?_
              refine lv_istore (lv' := [(4, .int 0), (3, .int (nI k)), (2, .int ((-6))), (0, .ref (q 0)), (1, .int (nI c0))]) hx hb dX6_ladderOf_56 hl (by decide) rfl (fun ls hl => ?_)
              refine lv_iload hx hb dX6_ladderOf_58 (lv_at hl 0 rfl) ?_
              refine lv_if_eq (tgt := 94) hx hb dX6_ladderOf_60 (by decide) (fun _ => ?_) (fun c7 => absurd (by decide) c7)
              refine lv_iload_n hx hb dX6_ladderOf_94 rfl (lv_at hl 2 rfl) ?_
              refine lv_istore_n (lv' := [(2, .int ((-6))), (4, .int 0), (3, .int (nI k)), (0, .ref (q 0)), (1, .int (nI c0))]) hx hb dX6_ladderOf_95 rfl hl (by decide) rfl (fun ls hl => ?_)
              refine lv_iinc (v := nI (k + 1)) (lv' := [(3, .int (nI (k + 1))), (2, .int ((-6))), (4, .int 0), (0, .ref (q 0)), (1, .int (nI c0))]) hx hb dX6_ladderOf_96 hl (k := 2) rfl (by rw [show Int32.ofInt 1 = nI 1 from rfl, nI_add]) (by decide) rfl (fun ls hl => ?_)
              refine lv_goto (tgt := 5) hx hb dX6_ladderOf_99 (by decide) ?_
              exact ih (k + 1) none (by omega) (by omega) (by simp [ladP, -Int32.not_le, -Int32.not_lt, ho, c1, nc1, c3, c6]) _ _ _ hI (lv_sub hl [0, 1, 3, 4] rfl)
            · skip
              refine lv_iconst (v := 1) hx hb dX6_ladderOf_51 (by decide) ?_
              refine lv_goto (tgt := 56) hx hb dX6_ladderOf_52 (by decide) ?_
              refine lv_istore (lv' := [(4, .int 1), (3, .int (nI k)), (2, .int ((-6))), (0, .ref (q 0)), (1, .int (nI c0))]) hx hb dX6_ladderOf_56 hl (by decide) rfl (fun ls hl => ?_)
              refine lv_iload hx hb dX6_ladderOf_58 (lv_at hl 0 rfl) ?_
              refine lv_if_eq (tgt := 94) hx hb dX6_ladderOf_60 (by decide) (fun c8 => absurd c8 (by decide)) (fun _ => ?_)
              refine lv_iload_n hx hb dX6_ladderOf_63 rfl (lv_at hl 2 rfl) ?_
              refine lv_bipush (v := (-6)) hx hb dX6_ladderOf_64 (by decide) ?_
              refine lv_icmp_eq (tgt := 90) hx hb dX6_ladderOf_66 (by decide) (fun _ => ?_) (fun c9 => absurd (by decide) c9)
              refine lv_iload_n hx hb dX6_ladderOf_90 rfl (lv_at hl 1 rfl) ?_
              refine lv_goto (tgt := 95) hx hb dX6_ladderOf_91 (by decide) ?_
              refine lv_istore_n (lv' := [(2, .int (nI k)), (4, .int 1), (3, .int (nI k)), (0, .ref (q 0)), (1, .int (nI c0))]) hx hb dX6_ladderOf_95 rfl hl (by decide) rfl (fun ls hl => ?_)
              refine lv_iinc (v := nI (k + 1)) (lv' := [(3, .int (nI (k + 1))), (2, .int (nI k)), (4, .int 1), (0, .ref (q 0)), (1, .int (nI c0))]) hx hb dX6_ladderOf_96 hl (k := 2) rfl (by rw [show Int32.ofInt 1 = nI 1 from rfl, nI_add]) (by decide) rfl (fun ls hl => ?_)
              refine lv_goto (tgt := 5) hx hb dX6_ladderOf_99 (by decide) ?_
              exact ih (k + 1) (some (k)) (by omega) (by omega) (by simp [ladP, -Int32.not_le, -Int32.not_lt, ho, c1, nc1, c3, c6]) _ _ _ hI (lv_sub hl [0, 1, 3, 4] rfl)
      · have hl : lv_has ls 5 [(3, .int (nI k)), (2, .int (nI p1)), (0, .ref (q 0)), (1, .int (nI c0))] := hl
        have hp1 := ladP_lt _ _ _ _ ho
        refine lv_iload_n hx hb dX6_ladderOf_5 rfl (lv_at hl 0 rfl) ?_
        refine lv_aload_n hx hb dX6_ladderOf_6 rfl (lv_at hl 2 rfl) ?_
        refine m_get hx hb hts hin hown hK hI 0 (by decide) (hts (.fieldLink RX6 7 "WinderLaddersModel" "s" "[I") (by decide +kernel)) (v := .ref (q 1)) rfl dX6_ladderOf_7 ?_
        refine lv_bipush (v := 6) hx hb dX6_ladderOf_10 (by decide) ?_
        refine m_ald hx hb hK hI 0 (by decide) (6) (by show _ < 140; omega) rfl (v := nI (ln (M 0))) hW.2.2.1 dX6_ladderOf_12 ?_
        refine lv_icmp_ge (tgt := 102) hx hb dX6_ladderOf_13 (by decide) (fun c10 => ?_) (fun c10 => ?_)
        · skip
          have nc10 : ln (M 0) ≤ k := (nI_leI (a := ln (M 0)) (b := k) (by omega) (by omega)).mp c10
          refine lv_iload_n hx hb dX6_ladderOf_102 rfl (lv_at hl 1 rfl) ?_
          exact m_iret (v := nI p1) hx hb hr hI (⟨by rw [show k = ln (M 0) by omega] at ho; simp only [ladF, ho]; rfl, rfl⟩) dX6_ladderOf_103 hlocks
        · skip
          have nc10 : ¬ (ln (M 0) ≤ k) := fun h => c10 ((nI_leI (a := ln (M 0)) (b := k) (by omega) (by omega)).mpr h)
          refine lv_aload_n hx hb dX6_ladderOf_16 rfl (lv_at hl 2 rfl) ?_
          refine m_get hx hb hts hin hown hK hI 0 (by decide) (hts (.fieldLink RX6 7 "WinderLaddersModel" "s" "[I") (by decide +kernel)) (v := .ref (q 1)) rfl dX6_ladderOf_17 ?_
          refine lv_iload_n hx hb dX6_ladderOf_20 rfl (lv_at hl 3 rfl) ?_
          refine lv_iconst (v := 1) hx hb dX6_ladderOf_21 (by decide) ?_
          refine m_calls (As := [.int (nI c0), .int 1]) (rest := [.ref (q 1)]) hx hb hml hown hts hI (k_X6_at l (c0) (1)) (va_cwS 2 hts gX6_ladderOf_X6_at rfl rfl rfl (by decide +kernel) ⟨Nat.le_of_ble_eq_true rfl, Nat.le_of_ble_eq_true rfl⟩) rfl hl (Nat.le_of_ble_eq_true rfl) ⟨Nat.zero_le _, Nat.zero_le _⟩ dX6_ladderOf_22 rfl (fun r H locs h11 hI => ?_)
          subst h11
          refine m_ald hx hb hK hI 0 (by decide) (12 + 8 * c0 + 1) (by show _ < 140; omega) rfl (v := M 0 (12 + 8 * c0 + 1)) rfl dX6_ladderOf_25 ?_
          refine lv_if_le (tgt := 55) hx hb dX6_ladderOf_26 (by decide) (fun c12 => ?_) (fun c12 => ?_)
          · skip
            refine lv_iconst (v := 0) hx hb dX6_ladderOf_55 (by decide) ?_
            refine lv_istore (lv' := [(4, .int 0), (3, .int (nI k)), (2, .int (nI p1)), (0, .ref (q 0)), (1, .int (nI c0))]) hx hb dX6_ladderOf_56 hl (by decide) rfl (fun ls hl => ?_)
            refine lv_iload hx hb dX6_ladderOf_58 (lv_at hl 0 rfl) ?_
            refine lv_if_eq (tgt := 94) hx hb dX6_ladderOf_60 (by decide) (fun _ => ?_) (fun c13 => absurd (by decide) c13)
            refine lv_iload_n hx hb dX6_ladderOf_94 rfl (lv_at hl 2 rfl) ?_
            refine lv_istore_n (lv' := [(2, .int (nI p1)), (4, .int 0), (3, .int (nI k)), (0, .ref (q 0)), (1, .int (nI c0))]) hx hb dX6_ladderOf_95 rfl hl (by decide) rfl (fun ls hl => ?_)
            refine lv_iinc (v := nI (k + 1)) (lv' := [(3, .int (nI (k + 1))), (2, .int (nI p1)), (4, .int 0), (0, .ref (q 0)), (1, .int (nI c0))]) hx hb dX6_ladderOf_96 hl (k := 2) rfl (by rw [show Int32.ofInt 1 = nI 1 from rfl, nI_add]) (by decide) rfl (fun ls hl => ?_)
            refine lv_goto (tgt := 5) hx hb dX6_ladderOf_99 (by decide) ?_
            exact ih (k + 1) (some (p1)) (by omega) (by omega) (by simp [ladP, -Int32.not_le, -Int32.not_lt, ho, c10, nc10, c12]) _ _ _ hI (lv_sub hl [0, 1, 3, 4] rfl)
          · skip
            refine lv_aload_n hx hb dX6_ladderOf_29 rfl (lv_at hl 2 rfl) ?_
            refine m_get hx hb hts hin hown hK hI 0 (by decide) (hts (.fieldLink RX6 7 "WinderLaddersModel" "s" "[I") (by decide +kernel)) (v := .ref (q 1)) rfl dX6_ladderOf_30 ?_
            refine lv_bipush (v := 8) hx hb dX6_ladderOf_33 (by decide) ?_
            refine lv_iload_n hx hb dX6_ladderOf_35 rfl (lv_at hl 0 rfl) ?_
            refine lv_iadd hx hb dX6_ladderOf_36 ?_
            refine lv_re (y := nI (8 + k)) (nI_add (8) (k)) ?_
            refine m_ald hx hb hK hI 0 (by decide) (8 + k) (by show _ < 140; omega) rfl (v := M 0 (8 + k)) rfl dX6_ladderOf_37 ?_
            refine lv_aload_n hx hb dX6_ladderOf_38 rfl (lv_at hl 2 rfl) ?_
            refine m_get hx hb hts hin hown hK hI 0 (by decide) (hts (.fieldLink RX6 7 "WinderLaddersModel" "s" "[I") (by decide +kernel)) (v := .ref (q 1)) rfl dX6_ladderOf_39 ?_
            refine lv_iload_n hx hb dX6_ladderOf_42 rfl (lv_at hl 3 rfl) ?_
            refine lv_iconst (v := 1) hx hb dX6_ladderOf_43 (by decide) ?_
            refine m_calls (As := [.int (nI c0), .int 1]) (rest := [.ref (q 1), .int (M 0 (8 + k))]) hx hb hml hown hts hI (k_X6_at l (c0) (1)) (va_cwS 2 hts gX6_ladderOf_X6_at rfl rfl rfl (by decide +kernel) ⟨Nat.le_of_ble_eq_true rfl, Nat.le_of_ble_eq_true rfl⟩) rfl hl (Nat.le_of_ble_eq_true rfl) ⟨Nat.zero_le _, Nat.zero_le _⟩ dX6_ladderOf_44 rfl (fun r H locs h14 hI => ?_)
            subst h14
            refine m_ald hx hb hK hI 0 (by decide) (12 + 8 * c0 + 1) (by show _ < 140; omega) rfl (v := M 0 (12 + 8 * c0 + 1)) rfl dX6_ladderOf_47 ?_
            refine lv_icmp_lt (tgt := 55) hx hb dX6_ladderOf_48 (by decide) (fun c15 => ?_) (fun c15 => ?_)
            · skip
              refine lv_iconst (v := 0) hx hb dX6_ladderOf_55 (by decide) ?_
              refine lv_istore (lv' := [(4, .int 0), (3, .int (nI k)), (2, .int (nI p1)), (0, .ref (q 0)), (1, .int (nI c0))]) hx hb dX6_ladderOf_56 hl (by decide) rfl (fun ls hl => ?_)
              refine lv_iload hx hb dX6_ladderOf_58 (lv_at hl 0 rfl) ?_
              refine lv_if_eq (tgt := 94) hx hb dX6_ladderOf_60 (by decide) (fun _ => ?_) (fun c16 => absurd (by decide) c16)
              refine lv_iload_n hx hb dX6_ladderOf_94 rfl (lv_at hl 2 rfl) ?_
              refine lv_istore_n (lv' := [(2, .int (nI p1)), (4, .int 0), (3, .int (nI k)), (0, .ref (q 0)), (1, .int (nI c0))]) hx hb dX6_ladderOf_95 rfl hl (by decide) rfl (fun ls hl => ?_)
              refine lv_iinc (v := nI (k + 1)) (lv' := [(3, .int (nI (k + 1))), (2, .int (nI p1)), (4, .int 0), (0, .ref (q 0)), (1, .int (nI c0))]) hx hb dX6_ladderOf_96 hl (k := 2) rfl (by rw [show Int32.ofInt 1 = nI 1 from rfl, nI_add]) (by decide) rfl (fun ls hl => ?_)
              refine lv_goto (tgt := 5) hx hb dX6_ladderOf_99 (by decide) ?_
              exact ih (k + 1) (some (p1)) (by omega) (by omega) (by simp [ladP, -Int32.not_le, -Int32.not_lt, ho, c10, nc10, c12, c15]) _ _ _ hI (lv_sub hl [0, 1, 3, 4] rfl)
            · skip
              refine lv_iconst (v := 1) hx hb dX6_ladderOf_51 (by decide) ?_
              refine lv_goto (tgt := 56) hx hb dX6_ladderOf_52 (by decide) ?_
              refine lv_istore (lv' := [(4, .int 1), (3, .int (nI k)), (2, .int (nI p1)), (0, .ref (q 0)), (1, .int (nI c0))]) hx hb dX6_ladderOf_56 hl (by decide) rfl (fun ls hl => ?_)
              refine lv_iload hx hb dX6_ladderOf_58 (lv_at hl 0 rfl) ?_
              refine lv_if_eq (tgt := 94) hx hb dX6_ladderOf_60 (by decide) (fun c17 => absurd c17 (by decide)) (fun _ => ?_)
              refine lv_iload_n hx hb dX6_ladderOf_63 rfl (lv_at hl 2 rfl) ?_
              refine lv_bipush (v := (-6)) hx hb dX6_ladderOf_64 (by decide) ?_
              refine lv_icmp_eq (tgt := 90) hx hb dX6_ladderOf_66 (by decide) (fun c18 => ?_) (fun c18 => ?_)
              · skip
                exact absurd c18 (nI_nm (by omega))
              · skip
                refine lv_aload_n hx hb dX6_ladderOf_69 rfl (lv_at hl 3 rfl) ?_
                refine m_get hx hb hts hin hown hK hI 0 (by decide) (hts (.fieldLink RX6 7 "WinderLaddersModel" "s" "[I") (by decide +kernel)) (v := .ref (q 1)) rfl dX6_ladderOf_70 ?_
                refine lv_bipush (v := 8) hx hb dX6_ladderOf_73 (by decide) ?_
                refine lv_iload_n hx hb dX6_ladderOf_75 rfl (lv_at hl 1 rfl) ?_
                refine lv_iadd hx hb dX6_ladderOf_76 ?_
                refine lv_re (y := nI (8 + k)) (nI_add (8) (k)) ?_
                refine m_ald hx hb hK hI 0 (by decide) (8 + k) (by show _ < 140; omega) rfl (v := M 0 (8 + k)) rfl dX6_ladderOf_77 ?_
                refine lv_aload_n hx hb dX6_ladderOf_78 rfl (lv_at hl 3 rfl) ?_
                refine m_get hx hb hts hin hown hK hI 0 (by decide) (hts (.fieldLink RX6 7 "WinderLaddersModel" "s" "[I") (by decide +kernel)) (v := .ref (q 1)) rfl dX6_ladderOf_79 ?_
                refine lv_bipush (v := 8) hx hb dX6_ladderOf_82 (by decide) ?_
                refine lv_iload_n hx hb dX6_ladderOf_84 rfl (lv_at hl 2 rfl) ?_
                refine lv_iadd hx hb dX6_ladderOf_85 ?_
                refine lv_re (y := nI (8 + p1)) (nI_add (8) (p1)) ?_
                refine m_ald hx hb hK hI 0 (by decide) (8 + p1) (by show _ < 140; omega) rfl (v := M 0 (8 + p1)) rfl dX6_ladderOf_86 ?_
                refine lv_icmp_ge (tgt := 94) hx hb dX6_ladderOf_87 (by decide) (fun c19 => ?_) (fun c19 => ?_)
                · skip
                  refine lv_iload_n hx hb dX6_ladderOf_94 rfl (lv_at hl 2 rfl) ?_
                  refine lv_istore_n (lv' := [(2, .int (nI p1)), (4, .int 1), (3, .int (nI k)), (0, .ref (q 0)), (1, .int (nI c0))]) hx hb dX6_ladderOf_95 rfl hl (by decide) rfl (fun ls hl => ?_)
                  refine lv_iinc (v := nI (k + 1)) (lv' := [(3, .int (nI (k + 1))), (2, .int (nI p1)), (4, .int 1), (0, .ref (q 0)), (1, .int (nI c0))]) hx hb dX6_ladderOf_96 hl (k := 2) rfl (by rw [show Int32.ofInt 1 = nI 1 from rfl, nI_add]) (by decide) rfl (fun ls hl => ?_)
                  refine lv_goto (tgt := 5) hx hb dX6_ladderOf_99 (by decide) ?_
                  exact ih (k + 1) (some (p1)) (by omega) (by omega) (by simp [ladP, -Int32.not_le, -Int32.not_lt, ho, c10, nc10, c12, c15, c18, c19]) _ _ _ hI (lv_sub hl [0, 1, 3, 4] rfl)
                · skip
                  refine lv_iload_n hx hb dX6_ladderOf_90 rfl (lv_at hl 1 rfl) ?_
                  refine lv_goto (tgt := 95) hx hb dX6_ladderOf_91 (by decide) ?_
                  refine lv_istore_n (lv' := [(2, .int (nI k)), (4, .int 1), (3, .int (nI k)), (0, .ref (q 0)), (1, .int (nI c0))]) hx hb dX6_ladderOf_95 rfl hl (by decide) rfl (fun ls hl => ?_)
                  refine lv_iinc (v := nI (k + 1)) (lv' := [(3, .int (nI (k + 1))), (2, .int (nI k)), (4, .int 1), (0, .ref (q 0)), (1, .int (nI c0))]) hx hb dX6_ladderOf_96 hl (k := 2) rfl (by rw [show Int32.ofInt 1 = nI 1 from rfl, nI_add]) (by decide) rfl (fun ls hl => ?_)
                  refine lv_goto (tgt := 5) hx hb dX6_ladderOf_99 (by decide) ?_
                  exact ih (k + 1) (some (k)) (by omega) (by omega) (by simp [ladP, -Int32.not_le, -Int32.not_lt, ho, c10, nc10, c12, c15, c18, c19]) _ _ _ hI (lv_sub hl [0, 1, 3, 4] rfl)
  exact L5 5 0 none (by omega) (by omega) rfl _ _ _ hI (lv_sub hl [0, 1, 2, 3] rfl)

set_option maxHeartbeats 4000000 in
set_option maxRecDepth 100000 in
theorem k_X6_canWind (l : Launch) (dd : va_G) (g : Nat → ClassId) (q : Nat → Nat) (A : Nat → Prop) (hA : mA A q) (M : MS) (c0 : Nat) (hc : c0 < 16) (hW : Wk (M 0)) : Met l yX6_canWind wsX6_canWind ({ frames := 2, cells := 0, slots := 0, locals := 45 }) (mPre dd g q M [.ref (q 0), .int (nI c0)]) (mQi dd g q A (fun r M' => ((canW (M 0) c0 = true ∧ r = 1) ∨ (canW (M 0) c0 = false ∧ r = 0)) ∧ M' = M)) 0 0 A := by
  refine Met.ofW (cc := cX6_canWind) (maxL := 2) (ret := (some .boolean)) (by decide) rfl ?_
  intro p e s m args below meth c s₁ B hml hv
  obtain ⟨rfl, hP0, hK⟩ := hv
  have hx := B.exec
  have hb := B.bytes
  have hr := B.returns
  have hts := atoms_spec (ws := wsX6_canWind) B.pre
  have hown : s.vm.findClass RX6 = some m.cls := findClass_of_methodNamed B.named
  have hlocks := B.notSynchronized
  have hin : ∀ w ∈ wsX60, w ∈ wsX6_canWind := by decide +kernel
  have hI : mI dd g q A s.heap s.heap [] M := ⟨hP0, va_S.rf⟩
  have hl := lv_entry ([.ref (q 0), .int (nI c0)]) (n := 2) (Nat.le_of_ble_eq_true rfl)
  rw [lg_entry_eq]
  generalize (lg_sl ([.ref (q 0), .int (nI c0)]) ++ List.replicate (2 - (lg_sl ([.ref (q 0), .int (nI c0)])).length) Slot.unset).toArray = ls at hl ⊢
  have hl : lv_has ls 2 [(0, .ref (q 0)), (1, .int (nI c0))] := hl
  have hc16 := hW.2.1
  have hl4 := hW.2.2.2
  have hlf := ladF_lt hW c0
  refine lv_aload_n hx hb dX6_canWind_0 rfl (lv_at hl 0 rfl) ?_
  refine m_get hx hb hts hin hown hK hI 0 (by decide) (hts (.fieldLink RX6 7 "WinderLaddersModel" "s" "[I") (by decide +kernel)) (v := .ref (q 1)) rfl dX6_canWind_1 ?_
  refine lv_iload_n hx hb dX6_canWind_4 rfl (lv_at hl 1 rfl) ?_
  refine lv_iconst (v := 1) hx hb dX6_canWind_5 (by decide) ?_
  refine m_calls (As := [.int (nI c0), .int 1]) (rest := [.ref (q 1)]) hx hb hml hown hts hI (k_X6_at l (c0) (1)) (va_cwS 2 hts gX6_canWind_X6_at rfl rfl rfl (by decide +kernel) ⟨Nat.le_of_ble_eq_true rfl, Nat.le_of_ble_eq_true rfl⟩) rfl hl (Nat.le_of_ble_eq_true rfl) ⟨Nat.zero_le _, Nat.zero_le _⟩ dX6_canWind_6 rfl (fun r H locs h1 hI => ?_)
  subst h1
  refine m_ald hx hb hK hI 0 (by decide) (12 + 8 * c0 + 1) (by show _ < 140; omega) rfl (v := M 0 (12 + 8 * c0 + 1)) rfl dX6_canWind_9 ?_
  refine lv_if_eq (tgt := 23) hx hb dX6_canWind_10 (by decide) (fun c2 => ?_) (fun c2 => ?_)
  · skip
    refine lv_iconst (v := 1) hx hb dX6_canWind_23 (by decide) ?_
    refine lv_goto (tgt := 28) hx hb dX6_canWind_24 (by decide) ?_
    exact m_zret (v := 1) hx hb hr (by first | rfl | decide) hI (⟨Or.inl ⟨canW_t.mpr (by first | exact Or.inl c2 | exact Or.inr ((o2i_ne hlf).mp c2)), rfl⟩, rfl⟩) dX6_canWind_28 hlocks
  · skip
    refine lv_aload_n hx hb dX6_canWind_13 rfl (lv_at hl 0 rfl) ?_
    refine lv_iload_n hx hb dX6_canWind_14 rfl (lv_at hl 1 rfl) ?_
    refine m_calli (As := [.int (nI c0)]) (rest := []) hx hb hml hown hts hK hI (k_X6_ladderOf l dd g q A hA M c0 (by omega) hW) (cwV 1 hts gX6_canWind_X6_ladderOf rfl rfl rfl (by decide +kernel) ⟨Nat.le_of_ble_eq_true rfl, Nat.le_of_ble_eq_true rfl⟩) rfl hl (Nat.le_of_ble_eq_true rfl) ⟨Nat.zero_le _, Nat.zero_le _⟩ dX6_canWind_15 rfl (fun r M1 H locs h3 hI => ?_)
    obtain ⟨hr9, hm9⟩ := h3
    rw [hm9] at hI
    subst hr9
    refine lv_bipush (v := (-6)) hx hb dX6_canWind_18 (by decide) ?_
    refine lv_icmp_eq (tgt := 27) hx hb dX6_canWind_20 (by decide) (fun c4 => ?_) (fun c4 => ?_)
    · skip
      refine lv_iconst (v := 0) hx hb dX6_canWind_27 (by decide) ?_
      exact m_zret (v := 0) hx hb hr (by first | rfl | decide) hI (⟨Or.inr ⟨canW_f.mpr (fun h => h.elim c2 (fun h => (o2i_ne hlf).mpr h c4)), rfl⟩, rfl⟩) dX6_canWind_28 hlocks
    · skip
      refine lv_iconst (v := 1) hx hb dX6_canWind_23 (by decide) ?_
      refine lv_goto (tgt := 28) hx hb dX6_canWind_24 (by decide) ?_
      exact m_zret (v := 1) hx hb hr (by first | rfl | decide) hI (⟨Or.inl ⟨canW_t.mpr (by first | exact Or.inl c2 | exact Or.inr ((o2i_ne hlf).mp c4)), rfl⟩, rfl⟩) dX6_canWind_28 hlocks

set_option maxHeartbeats 4000000 in
set_option maxRecDepth 100000 in
theorem k_X6_day (l : Launch) (dd : va_G) (g : Nat → ClassId) (q : Nat → Nat) (A : Nat → Prop) (hA : mA A q) (M : MS) (c0 : Nat) (hc : c0 < 16) : Met l yX6_day wsX6_day ({ frames := 2, cells := 0, slots := 0, locals := 42 }) (mPre dd g q M [.ref (q 0), .int (nI c0)]) (mQv dd g q A (fun M' => M' = ms0 M (dayM (M 0) c0))) 0 0 A := by
  refine Met.ofW (cc := cX6_day) (maxL := 2) (ret := none) (by decide) rfl ?_
  intro p e s m args below meth c s₁ B hml hv
  obtain ⟨rfl, hP0, hK⟩ := hv
  have hx := B.exec
  have hb := B.bytes
  have hr := B.returns
  have hts := atoms_spec (ws := wsX6_day) B.pre
  have hown : s.vm.findClass RX6 = some m.cls := findClass_of_methodNamed B.named
  have hlocks := B.notSynchronized
  have hin : ∀ w ∈ wsX60, w ∈ wsX6_day := by decide +kernel
  have hI : mI dd g q A s.heap s.heap [] M := ⟨hP0, va_S.rf⟩
  have hl := lv_entry ([.ref (q 0), .int (nI c0)]) (n := 2) (Nat.le_of_ble_eq_true rfl)
  rw [lg_entry_eq]
  generalize (lg_sl ([.ref (q 0), .int (nI c0)]) ++ List.replicate (2 - (lg_sl ([.ref (q 0), .int (nI c0)])).length) Slot.unset).toArray = ls at hl ⊢
  have hl : lv_has ls 2 [(0, .ref (q 0)), (1, .int (nI c0))] := hl
  refine lv_aload_n hx hb dX6_day_0 rfl (lv_at hl 0 rfl) ?_
  refine m_get hx hb hts hin hown hK hI 0 (by decide) (hts (.fieldLink RX6 7 "WinderLaddersModel" "s" "[I") (by decide +kernel)) (v := .ref (q 1)) rfl dX6_day_1 ?_
  refine lv_iload_n hx hb dX6_day_4 rfl (lv_at hl 1 rfl) ?_
  refine lv_iconst (v := 5) hx hb dX6_day_5 (by decide) ?_
  refine m_calls (As := [.int (nI c0), .int 5]) (rest := [.ref (q 1)]) hx hb hml hown hts hI (k_X6_at l (c0) (5)) (va_cwS 2 hts gX6_day_X6_at rfl rfl rfl (by decide +kernel) ⟨Nat.le_of_ble_eq_true rfl, Nat.le_of_ble_eq_true rfl⟩) rfl hl (Nat.le_of_ble_eq_true rfl) ⟨Nat.zero_le _, Nat.zero_le _⟩ dX6_day_6 rfl (fun r H locs h1 hI => ?_)
  subst h1
  refine lv_dup2_11 hx hb dX6_day_9 rfl rfl ?_
  refine m_ald hx hb hK hI 0 (by decide) (12 + 8 * c0 + 5) (by show _ < 140; omega) rfl (v := M 0 (12 + 8 * c0 + 5)) rfl dX6_day_10 ?_
  refine lv_iconst (v := 1) hx hb dX6_day_11 (by decide) ?_
  refine lv_iadd hx hb dX6_day_12 ?_
  refine m_ast hx hb hK hA hI 0 (by decide) (12 + 8 * c0 + 5) (by show _ < 140; omega) rfl dX6_day_13 (fun H locs hI => ?_)
  refine lv_aload_n hx hb dX6_day_14 rfl (lv_at hl 0 rfl) ?_
  refine m_get hx hb hts hin hown hK hI 0 (by decide) (hts (.fieldLink RX6 7 "WinderLaddersModel" "s" "[I") (by decide +kernel)) (v := .ref (q 1)) rfl dX6_day_15 ?_
  refine lv_iload_n hx hb dX6_day_18 rfl (lv_at hl 1 rfl) ?_
  refine lv_bipush (v := 6) hx hb dX6_day_19 (by decide) ?_
  refine m_calls (As := [.int (nI c0), .int 6]) (rest := [.ref (q 1)]) hx hb hml hown hts hI (k_X6_at l (c0) (6)) (va_cwS 2 hts gX6_day_X6_at rfl rfl rfl (by decide +kernel) ⟨Nat.le_of_ble_eq_true rfl, Nat.le_of_ble_eq_true rfl⟩) rfl hl (Nat.le_of_ble_eq_true rfl) ⟨Nat.zero_le _, Nat.zero_le _⟩ dX6_day_21 rfl (fun r H locs h2 hI => ?_)
  subst h2
  refine m_ald hx hb hK hI 0 (by decide) (12 + 8 * c0 + 6) (by show _ < 140; omega) rfl (v := M 0 (12 + 8 * c0 + 6)) (mset_nj _ (by omega) _ _) dX6_day_24 ?_
  refine lv_iconst (v := 1) hx hb dX6_day_25 (by decide) ?_
  refine lv_icmp_ne (tgt := 90) hx hb dX6_day_26 (by decide) (fun c3 => ?_) (fun c3 => ?_)
  · skip
    exact m_vret hx hb hr hI (by simp [dayM, mset_0, ms0_0, ms0_ms0, rt, upd_ne, upd_self, -Int32.not_lt, -Int32.not_le, c3]) dX6_day_90 hlocks
  · skip
    refine lv_aload_n hx hb dX6_day_29 rfl (lv_at hl 0 rfl) ?_
    refine m_get hx hb hts hin hown hK hI 0 (by decide) (hts (.fieldLink RX6 7 "WinderLaddersModel" "s" "[I") (by decide +kernel)) (v := .ref (q 1)) rfl dX6_day_30 ?_
    refine lv_iload_n hx hb dX6_day_33 rfl (lv_at hl 1 rfl) ?_
    refine lv_iconst (v := 4) hx hb dX6_day_34 (by decide) ?_
    refine m_calls (As := [.int (nI c0), .int 4]) (rest := [.ref (q 1)]) hx hb hml hown hts hI (k_X6_at l (c0) (4)) (va_cwS 2 hts gX6_day_X6_at rfl rfl rfl (by decide +kernel) ⟨Nat.le_of_ble_eq_true rfl, Nat.le_of_ble_eq_true rfl⟩) rfl hl (Nat.le_of_ble_eq_true rfl) ⟨Nat.zero_le _, Nat.zero_le _⟩ dX6_day_35 rfl (fun r H locs h4 hI => ?_)
    subst h4
    refine lv_dup2_11 hx hb dX6_day_38 rfl rfl ?_
    refine m_ald hx hb hK hI 0 (by decide) (12 + 8 * c0 + 4) (by show _ < 140; omega) rfl (v := M 0 (12 + 8 * c0 + 4)) (mset_nj _ (by omega) _ _) dX6_day_39 ?_
    refine lv_aload_n hx hb dX6_day_40 rfl (lv_at hl 0 rfl) ?_
    refine lv_iload_n hx hb dX6_day_41 rfl (lv_at hl 1 rfl) ?_
    refine m_calli (As := [.int (nI c0)]) (rest := [.int (M 0 (12 + 8 * c0 + 4)), .int (nI (12 + 8 * c0 + 4)), .ref (q 1)]) hx hb hml hown hts hK hI (k_X6_rate l dd g q A hA (mset M 0 (12 + 8 * c0 + 5) ((M 0 (12 + 8 * c0 + 5)) + 1)) c0 hc) (cwV 1 hts gX6_day_X6_rate rfl rfl rfl (by decide +kernel) ⟨Nat.le_of_ble_eq_true rfl, Nat.le_of_ble_eq_true rfl⟩) rfl hl (Nat.le_of_ble_eq_true rfl) ⟨Nat.zero_le _, Nat.zero_le _⟩ dX6_day_42 rfl (fun r M1 H locs h5 hI => ?_)
    obtain ⟨hr9, hm9⟩ := h5
    rw [hm9] at hI
    subst hr9
    refine lv_iadd hx hb dX6_day_45 ?_
    refine m_ast hx hb hK hA hI 0 (by decide) (12 + 8 * c0 + 4) (by show _ < 140; omega) rfl dX6_day_46 (fun H locs hI => ?_)
    refine lv_aload_n hx hb dX6_day_47 rfl (lv_at hl 0 rfl) ?_
    refine m_get hx hb hts hin hown hK hI 0 (by decide) (hts (.fieldLink RX6 7 "WinderLaddersModel" "s" "[I") (by decide +kernel)) (v := .ref (q 1)) rfl dX6_day_48 ?_
    refine lv_iload_n hx hb dX6_day_51 rfl (lv_at hl 1 rfl) ?_
    refine lv_iconst (v := 5) hx hb dX6_day_52 (by decide) ?_
    refine m_calls (As := [.int (nI c0), .int 5]) (rest := [.ref (q 1)]) hx hb hml hown hts hI (k_X6_at l (c0) (5)) (va_cwS 2 hts gX6_day_X6_at rfl rfl rfl (by decide +kernel) ⟨Nat.le_of_ble_eq_true rfl, Nat.le_of_ble_eq_true rfl⟩) rfl hl (Nat.le_of_ble_eq_true rfl) ⟨Nat.zero_le _, Nat.zero_le _⟩ dX6_day_53 rfl (fun r H locs h6 hI => ?_)
    subst h6
    refine m_ald hx hb hK hI 0 (by decide) (12 + 8 * c0 + 5) (by show _ < 140; omega) rfl (v := (M 0 (12 + 8 * c0 + 5)) + 1) ((mset_nj _ (by omega) _ _).trans (mset_eq _ _ _ _)) dX6_day_56 ?_
    refine lv_aload_n hx hb dX6_day_57 rfl (lv_at hl 0 rfl) ?_
    refine m_get hx hb hts hin hown hK hI 0 (by decide) (hts (.fieldLink RX6 7 "WinderLaddersModel" "s" "[I") (by decide +kernel)) (v := .ref (q 1)) rfl dX6_day_58 ?_
    refine lv_iconst (v := 1) hx hb dX6_day_61 (by decide) ?_
    refine m_ald hx hb hK hI 0 (by decide) (1) (by show _ < 140; omega) rfl (v := M 0 1) ((mset_nj _ (by omega) _ _).trans (mset_nj _ (by omega) _ _)) dX6_day_62 ?_
    refine lv_icmp_le (tgt := 90) hx hb dX6_day_63 (by decide) (fun c7 => ?_) (fun c7 => ?_)
    · skip
      exact m_vret hx hb hr hI (by simp [dayM, mset_0, ms0_0, ms0_ms0, rt, upd_ne, upd_self, -Int32.not_lt, -Int32.not_le, c3, c7]) dX6_day_90 hlocks
    · skip
      refine lv_aload_n hx hb dX6_day_66 rfl (lv_at hl 0 rfl) ?_
      refine m_get hx hb hts hin hown hK hI 0 (by decide) (hts (.fieldLink RX6 7 "WinderLaddersModel" "s" "[I") (by decide +kernel)) (v := .ref (q 1)) rfl dX6_day_67 ?_
      refine lv_iload_n hx hb dX6_day_70 rfl (lv_at hl 1 rfl) ?_
      refine lv_bipush (v := 6) hx hb dX6_day_71 (by decide) ?_
      refine m_calls (As := [.int (nI c0), .int 6]) (rest := [.ref (q 1)]) hx hb hml hown hts hI (k_X6_at l (c0) (6)) (va_cwS 2 hts gX6_day_X6_at rfl rfl rfl (by decide +kernel) ⟨Nat.le_of_ble_eq_true rfl, Nat.le_of_ble_eq_true rfl⟩) rfl hl (Nat.le_of_ble_eq_true rfl) ⟨Nat.zero_le _, Nat.zero_le _⟩ dX6_day_73 rfl (fun r H locs h8 hI => ?_)
      subst h8
      refine lv_iconst (v := 0) hx hb dX6_day_76 (by decide) ?_
      refine m_ast hx hb hK hA hI 0 (by decide) (12 + 8 * c0 + 6) (by show _ < 140; omega) rfl dX6_day_77 (fun H locs hI => ?_)
      refine lv_aload_n hx hb dX6_day_78 rfl (lv_at hl 0 rfl) ?_
      refine m_get hx hb hts hin hown hK hI 0 (by decide) (hts (.fieldLink RX6 7 "WinderLaddersModel" "s" "[I") (by decide +kernel)) (v := .ref (q 1)) rfl dX6_day_79 ?_
      refine lv_iload_n hx hb dX6_day_82 rfl (lv_at hl 1 rfl) ?_
      refine lv_iconst (v := 4) hx hb dX6_day_83 (by decide) ?_
      refine m_calls (As := [.int (nI c0), .int 4]) (rest := [.ref (q 1)]) hx hb hml hown hts hI (k_X6_at l (c0) (4)) (va_cwS 2 hts gX6_day_X6_at rfl rfl rfl (by decide +kernel) ⟨Nat.le_of_ble_eq_true rfl, Nat.le_of_ble_eq_true rfl⟩) rfl hl (Nat.le_of_ble_eq_true rfl) ⟨Nat.zero_le _, Nat.zero_le _⟩ dX6_day_84 rfl (fun r H locs h9 hI => ?_)
      subst h9
      refine lv_ldc hx hb hown (hts (.constant RX6 57 (43200)) (by decide +kernel)) dX6_day_87 ?_
      refine m_ast hx hb hK hA hI 0 (by decide) (12 + 8 * c0 + 4) (by show _ < 140; omega) rfl dX6_day_89 (fun H locs hI => ?_)
      exact m_vret hx hb hr hI (by simp [dayM, mset_0, ms0_0, ms0_ms0, rt, upd_ne, upd_self, -Int32.not_lt, -Int32.not_le, c3, c7]) dX6_day_90 hlocks
end
section
set_option maxHeartbeats 4000000 in
set_option maxRecDepth 100000 in
theorem k_X6_still (l : Launch) (dd : va_G) (g : Nat → ClassId) (q : Nat → Nat) (A : Nat → Prop) (hA : mA A q) (M : MS) (hW : Wk (M 0)) : Met l yX6_still wsX6_still ({ frames := 1, cells := 0, slots := 0, locals := 21 }) (mPre dd g q M [.ref (q 0)]) (mQi dd g q A (fun r M' => r = stillN (M 0) (cn (M 0)) ∧ M' = M)) 0 0 A := by
  refine Met.ofW (cc := cX6_still) (maxL := 3) (ret := (some .int)) (by decide) rfl ?_
  intro p e s m args below meth c s₁ B hml hv
  obtain ⟨rfl, hP0, hK⟩ := hv
  have hx := B.exec
  have hb := B.bytes
  have hr := B.returns
  have hts := atoms_spec (ws := wsX6_still) B.pre
  have hown : s.vm.findClass RX6 = some m.cls := findClass_of_methodNamed B.named
  have hlocks := B.notSynchronized
  have hin : ∀ w ∈ wsX60, w ∈ wsX6_still := by decide +kernel
  have hI : mI dd g q A s.heap s.heap [] M := ⟨hP0, va_S.rf⟩
  have hl := lv_entry ([.ref (q 0)]) (n := 3) (Nat.le_of_ble_eq_true rfl)
  rw [lg_entry_eq]
  generalize (lg_sl ([.ref (q 0)]) ++ List.replicate (3 - (lg_sl ([.ref (q 0)])).length) Slot.unset).toArray = ls at hl ⊢
  have hl : lv_has ls 3 [(0, .ref (q 0))] := hl
  have hc16 := hW.2.1
  have hl4 := hW.2.2.2
  refine lv_iconst (v := 0) hx hb dX6_still_0 (by decide) ?_
  refine lv_istore_n (lv' := [(1, .int 0), (0, .ref (q 0))]) hx hb dX6_still_1 rfl hl (by decide) rfl (fun ls hl => ?_)
  refine lv_iconst (v := 0) hx hb dX6_still_2 (by decide) ?_
  refine lv_istore_n (lv' := [(2, .int 0), (1, .int 0), (0, .ref (q 0))]) hx hb dX6_still_3 rfl hl (by decide) rfl (fun ls hl => ?_)
  have L4 : ∀ (fuel : Nat) (k : Nat) (x : Int32) (h1 : k ≤ cn (M 0)) (h2 : cn (M 0) < fuel + k) (hx2 : x = stillN (M 0) k) (H : Heap) (locs : List Loc) (ls : Array Slot), mI dd g q A s.heap H locs M → lv_has ls 3 [(2, .int (nI k)), (1, .int x), (0, .ref (q 0))] → wk p l e wsX6_still { frames := 1, cells := 0, slots := 0, locals := 21 } s m [.ref (q 0)] below meth c H locs (mQi dd g q A (fun r M' => r = stillN (M 0) (cn (M 0)) ∧ M' = M)) (A) (F0 m 4 ls []) := by
    intro fuel
    induction fuel with
    | zero =>
      intro k x h1 h2 hx2 H locs ls hI hl
      exact absurd h2 (by omega)
    | succ fuel ih =>
      intro k x h1 h2 hx2 H locs ls hI hl
      refine lv_iload_n hx hb dX6_still_4 rfl (lv_at hl 0 rfl) ?_
      refine lv_aload_n hx hb dX6_still_5 rfl (lv_at hl 2 rfl) ?_
      refine m_get hx hb hts hin hown hK hI 0 (by decide) (hts (.fieldLink RX6 7 "WinderLaddersModel" "s" "[I") (by decide +kernel)) (v := .ref (q 1)) rfl dX6_still_6 ?_
      refine lv_iconst (v := 5) hx hb dX6_still_9 (by decide) ?_
      refine m_ald hx hb hK hI 0 (by decide) (5) (by show _ < 140; omega) rfl (v := nI (cn (M 0))) hW.1 dX6_still_10 ?_
      refine lv_icmp_ge (tgt := 45) hx hb dX6_still_11 (by decide) (fun c1 => ?_) (fun c1 => ?_)
      · skip
        have nc1 : cn (M 0) ≤ k := (nI_leI (a := cn (M 0)) (b := k) (by omega) (by omega)).mp c1
        refine lv_iload_n hx hb dX6_still_45 rfl (lv_at hl 1 rfl) ?_
        exact m_iret (v := x) hx hb hr hI (⟨by rw [hx2, show k = cn (M 0) by omega], rfl⟩) dX6_still_46 hlocks
      · skip
        have nc1 : ¬ (cn (M 0) ≤ k) := fun h => c1 ((nI_leI (a := cn (M 0)) (b := k) (by omega) (by omega)).mpr h)
        refine lv_iload_n hx hb dX6_still_14 rfl (lv_at hl 1 rfl) ?_
        refine lv_aload_n hx hb dX6_still_15 rfl (lv_at hl 2 rfl) ?_
        refine m_get hx hb hts hin hown hK hI 0 (by decide) (hts (.fieldLink RX6 7 "WinderLaddersModel" "s" "[I") (by decide +kernel)) (v := .ref (q 1)) rfl dX6_still_16 ?_
        refine lv_iload_n hx hb dX6_still_19 rfl (lv_at hl 0 rfl) ?_
        refine lv_bipush (v := 6) hx hb dX6_still_20 (by decide) ?_
        refine m_calls (As := [.int (nI k), .int 6]) (rest := [.ref (q 1), .int x]) hx hb hml hown hts hI (k_X6_at l (k) (6)) (va_cwS 2 hts gX6_still_X6_at rfl rfl rfl (by decide +kernel) ⟨Nat.le_of_ble_eq_true rfl, Nat.le_of_ble_eq_true rfl⟩) rfl hl (Nat.le_of_ble_eq_true rfl) ⟨Nat.zero_le _, Nat.zero_le _⟩ dX6_still_22 rfl (fun r H locs h2 hI => ?_)
        subst h2
        refine m_ald hx hb hK hI 0 (by decide) (12 + 8 * k + 6) (by show _ < 140; omega) rfl (v := M 0 (12 + 8 * k + 6)) rfl dX6_still_25 ?_
        refine lv_iconst (v := 1) hx hb dX6_still_26 (by decide) ?_
        refine lv_icmp_ne (tgt := 34) hx hb dX6_still_27 (by decide) (fun c3 => ?_) (fun c3 => ?_)
        · skip
          refine lv_iconst (v := 1) hx hb dX6_still_34 (by decide) ?_
          refine lv_iload_n hx hb dX6_still_35 rfl (lv_at hl 0 rfl) ?_
          refine lv_ishl hx hb dX6_still_36 ?_
          refine lv_ior hx hb dX6_still_37 ?_
          refine lv_istore_n (lv' := [(1, .int (x ||| (1 <<< ((nI k) &&& 31)))), (2, .int (nI k)), (0, .ref (q 0))]) hx hb dX6_still_38 rfl hl (by decide) rfl (fun ls hl => ?_)
          refine lv_iinc (v := nI (k + 1)) (lv' := [(2, .int (nI (k + 1))), (1, .int (x ||| (1 <<< ((nI k) &&& 31)))), (0, .ref (q 0))]) hx hb dX6_still_39 hl (k := 1) rfl (by rw [show Int32.ofInt 1 = nI 1 from rfl, nI_add]) (by decide) rfl (fun ls hl => ?_)
          refine lv_goto (tgt := 4) hx hb dX6_still_42 (by decide) ?_
          exact ih (k + 1) (x ||| (1 <<< ((nI k) &&& 31))) (by omega) (by omega) (by simp [stillN, hx2, c1, nc1, c3]) _ _ _ hI (lv_sub hl [0, 1, 2] rfl)
        · skip
          refine lv_iconst (v := 0) hx hb dX6_still_30 (by decide) ?_
          refine lv_goto (tgt := 37) hx hb dX6_still_31 (by decide) ?_
          refine lv_ior hx hb dX6_still_37 ?_
          refine lv_istore_n (lv' := [(1, .int (x ||| 0)), (2, .int (nI k)), (0, .ref (q 0))]) hx hb dX6_still_38 rfl hl (by decide) rfl (fun ls hl => ?_)
          refine lv_iinc (v := nI (k + 1)) (lv' := [(2, .int (nI (k + 1))), (1, .int (x ||| 0)), (0, .ref (q 0))]) hx hb dX6_still_39 hl (k := 1) rfl (by rw [show Int32.ofInt 1 = nI 1 from rfl, nI_add]) (by decide) rfl (fun ls hl => ?_)
          refine lv_goto (tgt := 4) hx hb dX6_still_42 (by decide) ?_
          exact ih (k + 1) (x ||| 0) (by omega) (by omega) (by simp [stillN, hx2, c1, nc1, c3]) _ _ _ hI (lv_sub hl [0, 1, 2] rfl)
  exact L4 17 0 0 (by omega) (by omega) rfl _ _ _ hI (lv_sub hl [0, 1, 2] rfl)

set_option maxHeartbeats 4000000 in
set_option maxRecDepth 100000 in
theorem k_X6_passes (l : Launch) (dd : va_G) (g : Nat → ClassId) (q : Nat → Nat) (A : Nat → Prop) (hA : mA A q) (M : MS) (d : Nat) (hd : d < 1000) (hW : Wk (M 0)) : Met l yX6_passes wsX6_passes ({ frames := 3, cells := 0, slots := 0, locals := 63 }) (mPre dd g q M [.ref (q 0), .int (nI d)]) (mQi dd g q A (fun r M' => r = manyN (stillN (M' 0) (cn (M' 0))) 16 ∧ M' = ms0 M (upd (passD (M 0) d) 4 (M 0 4 + nI d)))) 0 0 A := by
  refine Met.ofW (cc := cX6_passes) (maxL := 4) (ret := (some .int)) (by decide) rfl ?_
  intro p e s m args below meth c s₁ B hml hv
  obtain ⟨rfl, hP0, hK⟩ := hv
  have hx := B.exec
  have hb := B.bytes
  have hr := B.returns
  have hts := atoms_spec (ws := wsX6_passes) B.pre
  have hown : s.vm.findClass RX6 = some m.cls := findClass_of_methodNamed B.named
  have hlocks := B.notSynchronized
  have hin : ∀ w ∈ wsX60, w ∈ wsX6_passes := by decide +kernel
  have hI : mI dd g q A s.heap s.heap [] M := ⟨hP0, va_S.rf⟩
  have hl := lv_entry ([.ref (q 0), .int (nI d)]) (n := 4) (Nat.le_of_ble_eq_true rfl)
  rw [lg_entry_eq]
  generalize (lg_sl ([.ref (q 0), .int (nI d)]) ++ List.replicate (4 - (lg_sl ([.ref (q 0), .int (nI d)])).length) Slot.unset).toArray = ls at hl ⊢
  have hl : lv_has ls 4 [(0, .ref (q 0)), (1, .int (nI d))] := hl
  have hc16 := hW.2.1
  have hl4 := hW.2.2.2
  refine lv_iconst (v := 0) hx hb dX6_passes_0 (by decide) ?_
  refine lv_istore_n (lv' := [(2, .int 0), (0, .ref (q 0)), (1, .int (nI d))]) hx hb dX6_passes_1 rfl hl (by decide) rfl (fun ls hl => ?_)
  have L2 : ∀ (fuel : Nat) (k : Nat) (h1 : k ≤ d) (h2 : d < fuel + k) (H : Heap) (locs : List Loc) (ls : Array Slot), mI dd g q A s.heap H locs (ms0 M (passD (M 0) k)) → lv_has ls 4 [(2, .int (nI k)), (0, .ref (q 0)), (1, .int (nI d))] → wk p l e wsX6_passes { frames := 3, cells := 0, slots := 0, locals := 63 } s m [.ref (q 0), .int (nI d)] below meth c H locs (mQi dd g q A (fun r M' => r = manyN (stillN (M' 0) (cn (M' 0))) 16 ∧ M' = ms0 M (upd (passD (M 0) d) 4 (M 0 4 + nI d)))) (A) (F0 m 2 ls []) := by
    intro fuel
    induction fuel with
    | zero =>
      intro k h1 h2 H locs ls hI hl
      exact absurd h2 (by omega)
    | succ fuel ih =>
      intro k h1 h2 H locs ls hI hl
      refine lv_iload_n hx hb dX6_passes_2 rfl (lv_at hl 0 rfl) ?_
      refine lv_iload_n hx hb dX6_passes_3 rfl (lv_at hl 2 rfl) ?_
      refine lv_icmp_ge (tgt := 36) hx hb dX6_passes_4 (by decide) (fun c1 => ?_) (fun c1 => ?_)
      · skip
        have nc1 : d ≤ k := (nI_leI (a := d) (b := k) (by omega) (by omega)).mp c1
        have ek : k = d := by omega
        have hW2 : Wk ((mset (ms0 M (passD (M 0) k)) 0 4 (M 0 4 + nI d)) 0) := by rw [mset_0, ms0_0]; exact (hW.congr (by rw [upd_ne (by decide), ms0_0, passD_lo _ _ (by decide)]) (by rw [upd_ne (by decide), ms0_0, passD_lo _ _ (by decide)])).1
        refine lv_aload_n hx hb dX6_passes_36 rfl (lv_at hl 1 rfl) ?_
        refine m_get hx hb hts hin hown hK hI 0 (by decide) (hts (.fieldLink RX6 7 "WinderLaddersModel" "s" "[I") (by decide +kernel)) (v := .ref (q 1)) rfl dX6_passes_37 ?_
        refine lv_iconst (v := 4) hx hb dX6_passes_40 (by decide) ?_
        refine lv_dup2_11 hx hb dX6_passes_41 rfl rfl ?_
        refine m_ald hx hb hK hI 0 (by decide) (4) (by show _ < 140; omega) rfl (v := M 0 4) ((passD_lo _ _ (by decide))) dX6_passes_42 ?_
        refine lv_iload_n hx hb dX6_passes_43 rfl (lv_at hl 2 rfl) ?_
        refine lv_iadd hx hb dX6_passes_44 ?_
        refine m_ast hx hb hK hA hI 0 (by decide) (4) (by show _ < 140; omega) rfl dX6_passes_45 (fun H locs hI => ?_)
        refine lv_aload_n hx hb dX6_passes_46 rfl (lv_at hl 1 rfl) ?_
        refine m_calli (As := []) (rest := []) hx hb hml hown hts hK hI (k_X6_still l dd g q A hA (mset (ms0 M (passD (M 0) k)) 0 (4) ((M 0 4) + (nI d))) hW2) (cwV 0 hts gX6_passes_X6_still rfl rfl rfl (by decide +kernel) ⟨Nat.le_of_ble_eq_true rfl, Nat.le_of_ble_eq_true rfl⟩) rfl hl (Nat.le_of_ble_eq_true rfl) ⟨Nat.zero_le _, Nat.zero_le _⟩ dX6_passes_47 rfl (fun r M1 H locs h2 hI => ?_)
        obtain ⟨hr9, hm9⟩ := h2
        rw [hm9] at hI
        subst hr9
        refine m_calls (As := [.int (stillN ((mset (ms0 M (passD (M 0) k)) 0 (4) ((M 0 4) + (nI d))) 0) (cn ((mset (ms0 M (passD (M 0) k)) 0 (4) ((M 0 4) + (nI d))) 0)))]) (rest := []) hx hb hml hown hts hI (k_X6_many l (stillN ((mset (ms0 M (passD (M 0) k)) 0 (4) ((M 0 4) + (nI d))) 0) (cn ((mset (ms0 M (passD (M 0) k)) 0 (4) ((M 0 4) + (nI d))) 0)))) (va_cwS 1 hts gX6_passes_X6_many rfl rfl rfl (by decide +kernel) ⟨Nat.le_of_ble_eq_true rfl, Nat.le_of_ble_eq_true rfl⟩) rfl hl (Nat.le_of_ble_eq_true rfl) ⟨Nat.zero_le _, Nat.zero_le _⟩ dX6_passes_50 rfl (fun r H locs h3 hI => ?_)
        subst h3
        exact m_iret (v := manyN (stillN ((mset (ms0 M (passD (M 0) k)) 0 (4) ((M 0 4) + (nI d))) 0) (cn ((mset (ms0 M (passD (M 0) k)) 0 (4) ((M 0 4) + (nI d))) 0))) 16) hx hb hr hI (⟨rfl, by rw [mset_0, ms0_0, ms0_ms0, ek]⟩) dX6_passes_53 hlocks
      · skip
        have nc1 : ¬ (d ≤ k) := fun h => c1 ((nI_leI (a := d) (b := k) (by omega) (by omega)).mpr h)
        refine lv_iconst (v := 0) hx hb dX6_passes_7 (by decide) ?_
        refine lv_istore_n (lv' := [(3, .int 0), (2, .int (nI k)), (0, .ref (q 0)), (1, .int (nI d))]) hx hb dX6_passes_8 rfl hl (by decide) rfl (fun ls hl => ?_)
        have L9 : ∀ (fuel2 : Nat) (c1 : Nat) (g1 : c1 ≤ cn (M 0)) (g2 : cn (M 0) < fuel2 + c1) (H : Heap) (locs : List Loc) (ls : Array Slot), mI dd g q A s.heap H locs (ms0 M (dayAll (passD (M 0) k) c1)) → lv_has ls 4 [(3, .int (nI c1)), (2, .int (nI k)), (0, .ref (q 0)), (1, .int (nI d))] → wk p l e wsX6_passes { frames := 3, cells := 0, slots := 0, locals := 63 } s m [.ref (q 0), .int (nI d)] below meth c H locs (mQi dd g q A (fun r M' => r = manyN (stillN (M' 0) (cn (M' 0))) 16 ∧ M' = ms0 M (upd (passD (M 0) d) 4 (M 0 4 + nI d)))) (A) (F0 m 9 ls []) := by
          intro fuel2
          induction fuel2 with
          | zero =>
            intro c1 g1 g2 H locs ls hI hl
            exact absurd g2 (by omega)
          | succ fuel2 ih2 =>
            intro c1 g1 g2 H locs ls hI hl
            refine lv_iload_n hx hb dX6_passes_9 rfl (lv_at hl 0 rfl) ?_
            refine lv_aload_n hx hb dX6_passes_10 rfl (lv_at hl 2 rfl) ?_
            refine m_get hx hb hts hin hown hK hI 0 (by decide) (hts (.fieldLink RX6 7 "WinderLaddersModel" "s" "[I") (by decide +kernel)) (v := .ref (q 1)) rfl dX6_passes_11 ?_
            refine lv_iconst (v := 5) hx hb dX6_passes_14 (by decide) ?_
            refine m_ald hx hb hK hI 0 (by decide) (5) (by show _ < 140; omega) rfl (v := nI (cn (M 0))) ((by rw [ms0_0, dayAll_lo _ _ (by decide), passD_lo _ _ (by decide)]; exact hW.1)) dX6_passes_15 ?_
            refine lv_icmp_ge (tgt := 30) hx hb dX6_passes_16 (by decide) (fun c4 => ?_) (fun c4 => ?_)
            · skip
              have nc4 : cn (M 0) ≤ c1 := (nI_leI (a := cn (M 0)) (b := c1) (by omega) (by omega)).mp c4
              refine lv_iinc (v := nI (k + 1)) (lv' := [(2, .int (nI (k + 1))), (3, .int (nI c1)), (0, .ref (q 0)), (1, .int (nI d))]) hx hb dX6_passes_30 hl (k := 1) rfl (by rw [show Int32.ofInt 1 = nI 1 from rfl, nI_add]) (by decide) rfl (fun ls hl => ?_)
              refine lv_goto (tgt := 2) hx hb dX6_passes_33 (by decide) ?_
              exact ih (k + 1) (by omega) (by omega) _ _ _ (by rw [show c1 = cn (M 0) by omega] at hI; exact hI) (lv_sub hl [0, 2, 3] rfl)
            · skip
              have nc4 : ¬ (cn (M 0) ≤ c1) := fun h => c4 ((nI_leI (a := cn (M 0)) (b := c1) (by omega) (by omega)).mpr h)
              refine lv_aload_n hx hb dX6_passes_19 rfl (lv_at hl 2 rfl) ?_
              refine lv_iload_n hx hb dX6_passes_20 rfl (lv_at hl 0 rfl) ?_
              refine m_callv (As := [.int (nI c1)]) (rest := []) hx hb hml hown hts hK hI (k_X6_day l dd g q A hA (ms0 M (dayAll (passD (M 0) k) c1)) c1 (by omega)) (cwV 1 hts gX6_passes_X6_day rfl rfl rfl (by decide +kernel) ⟨Nat.le_of_ble_eq_true rfl, Nat.le_of_ble_eq_true rfl⟩) rfl hl (Nat.le_of_ble_eq_true rfl) ⟨Nat.zero_le _, Nat.zero_le _⟩ dX6_passes_21 rfl (fun M1 H locs h5 hI => ?_)
              subst h5
              refine lv_iinc (v := nI (c1 + 1)) (lv' := [(3, .int (nI (c1 + 1))), (2, .int (nI k)), (0, .ref (q 0)), (1, .int (nI d))]) hx hb dX6_passes_24 hl (k := 0) rfl (by rw [show Int32.ofInt 1 = nI 1 from rfl, nI_add]) (by decide) rfl (fun ls hl => ?_)
              refine lv_goto (tgt := 9) hx hb dX6_passes_27 (by decide) ?_
              exact ih2 (c1 + 1) (by omega) (by omega) _ _ _ (by rw [ms0_ms0, ms0_0] at hI; exact hI) (lv_sub hl [0, 1, 2, 3] rfl)
        exact L9 17 0 (by omega) (by omega) _ _ _ hI (lv_sub hl [0, 1, 2, 3] rfl)
  exact L2 1001 0 (by omega) (by omega) _ _ _ (by rw [show ms0 M (passD (M 0) 0) = M from ms0_self M]; exact hI) (lv_sub hl [0, 1, 2] rfl)

set_option maxHeartbeats 4000000 in
set_option maxRecDepth 100000 in
theorem k_X6_changes (l : Launch) (dd : va_G) (g : Nat → ClassId) (q : Nat → Nat) (A : Nat → Prop) (hA : mA A q) (M : MS) (a : Int32) (hW : Wk (M 0)) : Met l yX6_changes wsX6_changes ({ frames := 2, cells := 0, slots := 0, locals := 43 }) (mPre dd g q M [.ref (q 0), .int a]) (mQi dd g q A (fun r M' => r = nI (cn (M 0)) - manyN (stillN (M' 0) (cn (M' 0))) 16 ∧ M' = ms0 M (chgA (M 0) a (cn (M 0))))) 0 0 A := by
  refine Met.ofW (cc := cX6_changes) (maxL := 3) (ret := (some .int)) (by decide) rfl ?_
  intro p e s m args below meth c s₁ B hml hv
  obtain ⟨rfl, hP0, hK⟩ := hv
  have hx := B.exec
  have hb := B.bytes
  have hr := B.returns
  have hts := atoms_spec (ws := wsX6_changes) B.pre
  have hown : s.vm.findClass RX6 = some m.cls := findClass_of_methodNamed B.named
  have hlocks := B.notSynchronized
  have hin : ∀ w ∈ wsX60, w ∈ wsX6_changes := by decide +kernel
  have hI : mI dd g q A s.heap s.heap [] M := ⟨hP0, va_S.rf⟩
  have hl := lv_entry ([.ref (q 0), .int a]) (n := 3) (Nat.le_of_ble_eq_true rfl)
  rw [lg_entry_eq]
  generalize (lg_sl ([.ref (q 0), .int a]) ++ List.replicate (3 - (lg_sl ([.ref (q 0), .int a])).length) Slot.unset).toArray = ls at hl ⊢
  have hl : lv_has ls 3 [(0, .ref (q 0)), (1, .int a)] := hl
  have hc16 := hW.2.1
  have hl4 := hW.2.2.2
  refine lv_iconst (v := 0) hx hb dX6_changes_0 (by decide) ?_
  refine lv_istore_n (lv' := [(2, .int 0), (0, .ref (q 0)), (1, .int a)]) hx hb dX6_changes_1 rfl hl (by decide) rfl (fun ls hl => ?_)
  have L2 : ∀ (fuel : Nat) (k : Nat) (h1 : k ≤ cn (M 0)) (h2 : cn (M 0) < fuel + k) (H : Heap) (locs : List Loc) (ls : Array Slot), mI dd g q A s.heap H locs (ms0 M (chgA (M 0) a k)) → lv_has ls 3 [(2, .int (nI k)), (0, .ref (q 0)), (1, .int a)] → wk p l e wsX6_changes { frames := 2, cells := 0, slots := 0, locals := 43 } s m [.ref (q 0), .int a] below meth c H locs (mQi dd g q A (fun r M' => r = nI (cn (M 0)) - manyN (stillN (M' 0) (cn (M' 0))) 16 ∧ M' = ms0 M (chgA (M 0) a (cn (M 0))))) (A) (F0 m 2 ls []) := by
    intro fuel
    induction fuel with
    | zero =>
      intro k h1 h2 H locs ls hI hl
      exact absurd h2 (by omega)
    | succ fuel ih =>
      intro k h1 h2 H locs ls hI hl
      refine lv_iload_n hx hb dX6_changes_2 rfl (lv_at hl 0 rfl) ?_
      refine lv_aload_n hx hb dX6_changes_3 rfl (lv_at hl 1 rfl) ?_
      refine m_get hx hb hts hin hown hK hI 0 (by decide) (hts (.fieldLink RX6 7 "WinderLaddersModel" "s" "[I") (by decide +kernel)) (v := .ref (q 1)) rfl dX6_changes_4 ?_
      refine lv_iconst (v := 5) hx hb dX6_changes_7 (by decide) ?_
      refine m_ald hx hb hK hI 0 (by decide) (5) (by show _ < 140; omega) rfl (v := nI (cn (M 0))) ((by rw [ms0_0, chgA_lo _ _ _ (by decide)]; exact hW.1)) dX6_changes_8 ?_
      refine lv_icmp_ge (tgt := 63) hx hb dX6_changes_9 (by decide) (fun c1 => ?_) (fun c1 => ?_)
      · skip
        have nc1 : cn (M 0) ≤ k := (nI_leI (a := cn (M 0)) (b := k) (by omega) (by omega)).mp c1
        have ek : k = cn (M 0) := by omega
        have hW2 : Wk (ms0 M (chgA (M 0) a k) 0) := (hW.congr (chgA_lo _ _ _ (by decide)) (chgA_lo _ _ _ (by decide))).1
        refine lv_aload_n hx hb dX6_changes_63 rfl (lv_at hl 1 rfl) ?_
        refine m_get hx hb hts hin hown hK hI 0 (by decide) (hts (.fieldLink RX6 7 "WinderLaddersModel" "s" "[I") (by decide +kernel)) (v := .ref (q 1)) rfl dX6_changes_64 ?_
        refine lv_iconst (v := 5) hx hb dX6_changes_67 (by decide) ?_
        refine m_ald hx hb hK hI 0 (by decide) (5) (by show _ < 140; omega) rfl (v := nI (cn (M 0))) ((by rw [ms0_0, chgA_lo _ _ _ (by decide)]; exact hW.1)) dX6_changes_68 ?_
        refine lv_aload_n hx hb dX6_changes_69 rfl (lv_at hl 1 rfl) ?_
        refine m_calli (As := []) (rest := [.int (nI (cn (M 0)))]) hx hb hml hown hts hK hI (k_X6_still l dd g q A hA (ms0 M (chgA (M 0) a k)) hW2) (cwV 0 hts gX6_changes_X6_still rfl rfl rfl (by decide +kernel) ⟨Nat.le_of_ble_eq_true rfl, Nat.le_of_ble_eq_true rfl⟩) rfl hl (Nat.le_of_ble_eq_true rfl) ⟨Nat.zero_le _, Nat.zero_le _⟩ dX6_changes_70 rfl (fun r M1 H locs h2 hI => ?_)
        obtain ⟨hr9, hm9⟩ := h2
        rw [hm9] at hI
        subst hr9
        refine m_calls (As := [.int (stillN ((chgA (M 0) a k)) (cn ((chgA (M 0) a k))))]) (rest := [.int (nI (cn (M 0)))]) hx hb hml hown hts hI (k_X6_many l (stillN ((chgA (M 0) a k)) (cn ((chgA (M 0) a k))))) (va_cwS 1 hts gX6_changes_X6_many rfl rfl rfl (by decide +kernel) ⟨Nat.le_of_ble_eq_true rfl, Nat.le_of_ble_eq_true rfl⟩) rfl hl (Nat.le_of_ble_eq_true rfl) ⟨Nat.zero_le _, Nat.zero_le _⟩ dX6_changes_73 rfl (fun r H locs h3 hI => ?_)
        subst h3
        refine lv_isub hx hb dX6_changes_76 ?_
        exact m_iret (v := (nI (cn (M 0))) - (manyN (stillN ((chgA (M 0) a k)) (cn ((chgA (M 0) a k)))) 16)) hx hb hr hI (⟨rfl, by rw [ek]⟩) dX6_changes_77 hlocks
      · skip
        have nc1 : ¬ (cn (M 0) ≤ k) := fun h => c1 ((nI_leI (a := cn (M 0)) (b := k) (by omega) (by omega)).mpr h)
        refine lv_aload_n hx hb dX6_changes_12 rfl (lv_at hl 1 rfl) ?_
        refine m_get hx hb hts hin hown hK hI 0 (by decide) (hts (.fieldLink RX6 7 "WinderLaddersModel" "s" "[I") (by decide +kernel)) (v := .ref (q 1)) rfl dX6_changes_13 ?_
        refine lv_iload_n hx hb dX6_changes_16 rfl (lv_at hl 0 rfl) ?_
        refine lv_iconst (v := 4) hx hb dX6_changes_17 (by decide) ?_
        refine m_calls (As := [.int (nI k), .int 4]) (rest := [.ref (q 1)]) hx hb hml hown hts hI (k_X6_at l (k) (4)) (va_cwS 2 hts gX6_changes_X6_at rfl rfl rfl (by decide +kernel) ⟨Nat.le_of_ble_eq_true rfl, Nat.le_of_ble_eq_true rfl⟩) rfl hl (Nat.le_of_ble_eq_true rfl) ⟨Nat.zero_le _, Nat.zero_le _⟩ dX6_changes_18 rfl (fun r H locs h4 hI => ?_)
        subst h4
        refine lv_dup2_11 hx hb dX6_changes_21 rfl rfl ?_
        refine m_ald hx hb hK hI 0 (by decide) (12 + 8 * k + 4) (by show _ < 140; omega) rfl (v := (chgA (M 0) a k) (12 + 8 * k + 4)) rfl dX6_changes_22 ?_
        refine lv_aload_n hx hb dX6_changes_23 rfl (lv_at hl 1 rfl) ?_
        refine m_get hx hb hts hin hown hK hI 0 (by decide) (hts (.fieldLink RX6 7 "WinderLaddersModel" "s" "[I") (by decide +kernel)) (v := .ref (q 1)) rfl dX6_changes_24 ?_
        refine lv_iload_n hx hb dX6_changes_27 rfl (lv_at hl 0 rfl) ?_
        refine lv_bipush (v := 6) hx hb dX6_changes_28 (by decide) ?_
        refine m_calls (As := [.int (nI k), .int 6]) (rest := [.ref (q 1), .int ((chgA (M 0) a k) (12 + 8 * k + 4)), .int (nI (12 + 8 * k + 4)), .ref (q 1)]) hx hb hml hown hts hI (k_X6_at l (k) (6)) (va_cwS 2 hts gX6_changes_X6_at rfl rfl rfl (by decide +kernel) ⟨Nat.le_of_ble_eq_true rfl, Nat.le_of_ble_eq_true rfl⟩) rfl hl (Nat.le_of_ble_eq_true rfl) ⟨Nat.zero_le _, Nat.zero_le _⟩ dX6_changes_30 rfl (fun r H locs h5 hI => ?_)
        subst h5
        refine m_ald hx hb hK hI 0 (by decide) (12 + 8 * k + 6) (by show _ < 140; omega) rfl (v := (chgA (M 0) a k) (12 + 8 * k + 6)) rfl dX6_changes_33 ?_
        refine lv_if_ne (tgt := 41) hx hb dX6_changes_34 (by decide) (fun c6 => ?_) (fun c6 => ?_)
        · skip
          refine lv_iload_n hx hb dX6_changes_41 rfl (lv_at hl 2 rfl) ?_
          refine lv_iconst (v := 1) hx hb dX6_changes_42 (by decide) ?_
          refine lv_icmp_ne (tgt := 52) hx hb dX6_changes_43 (by decide) (fun c7 => ?_) (fun c7 => ?_)
          · skip
            refine lv_sipush (v := 3600) hx hb dX6_changes_52 (by decide) ?_
            refine lv_iadd hx hb dX6_changes_55 ?_
            refine m_ast hx hb hK hA hI 0 (by decide) (12 + 8 * k + 4) (by show _ < 140; omega) rfl dX6_changes_56 (fun H locs hI => ?_)
            refine lv_iinc (v := nI (k + 1)) (lv' := [(2, .int (nI (k + 1))), (0, .ref (q 0)), (1, .int a)]) hx hb dX6_changes_57 hl (k := 0) rfl (by rw [show Int32.ofInt 1 = nI 1 from rfl, nI_add]) (by decide) rfl (fun ls hl => ?_)
            refine lv_goto (tgt := 2) hx hb dX6_changes_60 (by decide) ?_
            exact ih (k + 1) (by omega) (by omega) _ _ _ (by rw [mset_0, ms0_0, ms0_ms0] at hI; simp only [chgA, chg1, if_neg c1, if_neg c6, if_neg c7]; exact hI) (lv_sub hl [0, 1, 2] rfl)
          · skip
            refine lv_sipush (v := (-3600)) hx hb dX6_changes_46 (by decide) ?_
            refine lv_goto (tgt := 55) hx hb dX6_changes_49 (by decide) ?_
            refine lv_iadd hx hb dX6_changes_55 ?_
            refine m_ast hx hb hK hA hI 0 (by decide) (12 + 8 * k + 4) (by show _ < 140; omega) rfl dX6_changes_56 (fun H locs hI => ?_)
            refine lv_iinc (v := nI (k + 1)) (lv' := [(2, .int (nI (k + 1))), (0, .ref (q 0)), (1, .int a)]) hx hb dX6_changes_57 hl (k := 0) rfl (by rw [show Int32.ofInt 1 = nI 1 from rfl, nI_add]) (by decide) rfl (fun ls hl => ?_)
            refine lv_goto (tgt := 2) hx hb dX6_changes_60 (by decide) ?_
            exact ih (k + 1) (by omega) (by omega) _ _ _ (by rw [mset_0, ms0_0, ms0_ms0] at hI; simp only [chgA, chg1, if_neg c1, if_neg c6, if_pos c7]; exact hI) (lv_sub hl [0, 1, 2] rfl)
        · skip
          refine lv_iconst (v := 0) hx hb dX6_changes_37 (by decide) ?_
          refine lv_goto (tgt := 55) hx hb dX6_changes_38 (by decide) ?_
          refine lv_iadd hx hb dX6_changes_55 ?_
          refine m_ast hx hb hK hA hI 0 (by decide) (12 + 8 * k + 4) (by show _ < 140; omega) rfl dX6_changes_56 (fun H locs hI => ?_)
          refine lv_iinc (v := nI (k + 1)) (lv' := [(2, .int (nI (k + 1))), (0, .ref (q 0)), (1, .int a)]) hx hb dX6_changes_57 hl (k := 0) rfl (by rw [show Int32.ofInt 1 = nI 1 from rfl, nI_add]) (by decide) rfl (fun ls hl => ?_)
          refine lv_goto (tgt := 2) hx hb dX6_changes_60 (by decide) ?_
          exact ih (k + 1) (by omega) (by omega) _ _ _ (by rw [mset_0, ms0_0, ms0_ms0] at hI; simp only [chgA, chg1, if_neg c1, if_pos c6]; exact hI) (lv_sub hl [0, 1, 2] rfl)
  exact L2 17 0 (by omega) (by omega) _ _ _ (by rw [show ms0 M (chgA (M 0) a 0) = M from ms0_self M]; exact hI) (lv_sub hl [0, 1, 2] rfl)

set_option maxHeartbeats 4000000 in
set_option maxRecDepth 100000 in
theorem k_X6_way (l : Launch) (dd : va_G) (g : Nat → ClassId) (q : Nat → Nat) (A : Nat → Prop) (hA : mA A q) (M : MS) (a b : Int32) : Met l yX6_way wsX6_way ({ frames := 1, cells := 0, slots := 0, locals := 20 }) (mPre dd g q M [.ref (q 0), .int a, .int b]) (mQi dd g q A (fun r M' => r = jabs (a - b) * M 0 2 ∧ M' = M)) 0 0 A := by
  refine Met.ofW (cc := cX6_way) (maxL := 3) (ret := (some .int)) (by decide) rfl ?_
  intro p e s m args below meth c s₁ B hml hv
  obtain ⟨rfl, hP0, hK⟩ := hv
  have hx := B.exec
  have hb := B.bytes
  have hr := B.returns
  have hts := atoms_spec (ws := wsX6_way) B.pre
  have hown : s.vm.findClass RX6 = some m.cls := findClass_of_methodNamed B.named
  have hlocks := B.notSynchronized
  have hin : ∀ w ∈ wsX60, w ∈ wsX6_way := by decide +kernel
  have hI : mI dd g q A s.heap s.heap [] M := ⟨hP0, va_S.rf⟩
  have hl := lv_entry ([.ref (q 0), .int a, .int b]) (n := 3) (Nat.le_of_ble_eq_true rfl)
  rw [lg_entry_eq]
  generalize (lg_sl ([.ref (q 0), .int a, .int b]) ++ List.replicate (3 - (lg_sl ([.ref (q 0), .int a, .int b])).length) Slot.unset).toArray = ls at hl ⊢
  have hl : lv_has ls 3 [(0, .ref (q 0)), (1, .int a), (2, .int b)] := hl
  refine lv_iload_n hx hb dX6_way_0 rfl (lv_at hl 1 rfl) ?_
  refine lv_iload_n hx hb dX6_way_1 rfl (lv_at hl 2 rfl) ?_
  refine lv_isub hx hb dX6_way_2 ?_
  refine m_calls (As := [.int (a - b)]) (rest := []) hx hb hml hown hts hI (k_X6_size l (a - b)) (va_cwS 1 hts gX6_way_X6_size rfl rfl rfl (by decide +kernel) ⟨Nat.le_of_ble_eq_true rfl, Nat.le_of_ble_eq_true rfl⟩) rfl hl (Nat.le_of_ble_eq_true rfl) ⟨Nat.zero_le _, Nat.zero_le _⟩ dX6_way_3 rfl (fun r H locs h1 hI => ?_)
  subst h1
  refine lv_aload_n hx hb dX6_way_6 rfl (lv_at hl 0 rfl) ?_
  refine m_get hx hb hts hin hown hK hI 0 (by decide) (hts (.fieldLink RX6 7 "WinderLaddersModel" "s" "[I") (by decide +kernel)) (v := .ref (q 1)) rfl dX6_way_7 ?_
  refine lv_iconst (v := 2) hx hb dX6_way_10 (by decide) ?_
  refine m_ald hx hb hK hI 0 (by decide) (2) (by show _ < 140; omega) rfl (v := M 0 2) rfl dX6_way_11 ?_
  refine lv_imul hx hb dX6_way_12 ?_
  exact m_iret (v := (jabs (a - b)) * (M 0 2)) hx hb hr hI (⟨rfl, rfl⟩) dX6_way_13 hlocks

set_option maxHeartbeats 4000000 in
set_option maxRecDepth 100000 in
theorem k_X6_work (l : Launch) (dd : va_G) (g : Nat → ClassId) (q : Nat → Nat) (A : Nat → Prop) (hA : mA A q) (M : MS) (c0 : Nat) (hc : c0 < 16) : Met l yX6_work wsX6_work ({ frames := 2, cells := 0, slots := 0, locals := 42 }) (mPre dd g q M [.ref (q 0), .int (nI c0)]) (mQv dd g q A (fun M' => M' = ms0 M (workM (M 0) c0))) 0 0 A := by
  refine Met.ofW (cc := cX6_work) (maxL := 4) (ret := none) (by decide) rfl ?_
  intro p e s m args below meth c s₁ B hml hv
  obtain ⟨rfl, hP0, hK⟩ := hv
  have hx := B.exec
  have hb := B.bytes
  have hr := B.returns
  have hts := atoms_spec (ws := wsX6_work) B.pre
  have hown : s.vm.findClass RX6 = some m.cls := findClass_of_methodNamed B.named
  have hlocks := B.notSynchronized
  have hin : ∀ w ∈ wsX60, w ∈ wsX6_work := by decide +kernel
  have hI : mI dd g q A s.heap s.heap [] M := ⟨hP0, va_S.rf⟩
  have hl := lv_entry ([.ref (q 0), .int (nI c0)]) (n := 4) (Nat.le_of_ble_eq_true rfl)
  rw [lg_entry_eq]
  generalize (lg_sl ([.ref (q 0), .int (nI c0)]) ++ List.replicate (4 - (lg_sl ([.ref (q 0), .int (nI c0)])).length) Slot.unset).toArray = ls at hl ⊢
  have hl : lv_has ls 4 [(0, .ref (q 0)), (1, .int (nI c0))] := hl
  refine lv_aload_n hx hb dX6_work_0 rfl (lv_at hl 0 rfl) ?_
  refine lv_iload_n hx hb dX6_work_1 rfl (lv_at hl 1 rfl) ?_
  refine m_calli (As := [.int (nI c0)]) (rest := []) hx hb hml hown hts hK hI (k_X6_rate l dd g q A hA M c0 (by omega)) (cwV 1 hts gX6_work_X6_rate rfl rfl rfl (by decide +kernel) ⟨Nat.le_of_ble_eq_true rfl, Nat.le_of_ble_eq_true rfl⟩) rfl hl (Nat.le_of_ble_eq_true rfl) ⟨Nat.zero_le _, Nat.zero_le _⟩ dX6_work_2 rfl (fun r M1 H locs h1 hI => ?_)
  obtain ⟨hr9, hm9⟩ := h1
  rw [hm9] at hI
  subst hr9
  refine lv_istore_n (lv' := [(2, .int (rt (M 0) c0)), (0, .ref (q 0)), (1, .int (nI c0))]) hx hb dX6_work_5 rfl hl (by decide) rfl (fun ls hl => ?_)
  refine lv_aload_n hx hb dX6_work_6 rfl (lv_at hl 1 rfl) ?_
  refine m_get hx hb hts hin hown hK hI 0 (by decide) (hts (.fieldLink RX6 7 "WinderLaddersModel" "s" "[I") (by decide +kernel)) (v := .ref (q 1)) rfl dX6_work_7 ?_
  refine lv_iload_n hx hb dX6_work_10 rfl (lv_at hl 2 rfl) ?_
  refine lv_iconst (v := 3) hx hb dX6_work_11 (by decide) ?_
  refine m_calls (As := [.int (nI c0), .int 3]) (rest := [.ref (q 1)]) hx hb hml hown hts hI (k_X6_at l (c0) (3)) (va_cwS 2 hts gX6_work_X6_at rfl rfl rfl (by decide +kernel) ⟨Nat.le_of_ble_eq_true rfl, Nat.le_of_ble_eq_true rfl⟩) rfl hl (Nat.le_of_ble_eq_true rfl) ⟨Nat.zero_le _, Nat.zero_le _⟩ dX6_work_12 rfl (fun r H locs h2 hI => ?_)
  subst h2
  refine m_ald hx hb hK hI 0 (by decide) (12 + 8 * c0 + 3) (by show _ < 140; omega) rfl (v := M 0 (12 + 8 * c0 + 3)) rfl dX6_work_15 ?_
  refine lv_istore_n (lv' := [(3, .int (M 0 (12 + 8 * c0 + 3))), (2, .int (rt (M 0) c0)), (0, .ref (q 0)), (1, .int (nI c0))]) hx hb dX6_work_16 rfl hl (by decide) rfl (fun ls hl => ?_)
  refine lv_aload_n hx hb dX6_work_17 rfl (lv_at hl 2 rfl) ?_
  refine m_get hx hb hts hin hown hK hI 0 (by decide) (hts (.fieldLink RX6 7 "WinderLaddersModel" "s" "[I") (by decide +kernel)) (v := .ref (q 1)) rfl dX6_work_18 ?_
  refine lv_iload_n hx hb dX6_work_21 rfl (lv_at hl 3 rfl) ?_
  refine lv_bipush (v := 6) hx hb dX6_work_22 (by decide) ?_
  refine m_calls (As := [.int (nI c0), .int 6]) (rest := [.ref (q 1)]) hx hb hml hown hts hI (k_X6_at l (c0) (6)) (va_cwS 2 hts gX6_work_X6_at rfl rfl rfl (by decide +kernel) ⟨Nat.le_of_ble_eq_true rfl, Nat.le_of_ble_eq_true rfl⟩) rfl hl (Nat.le_of_ble_eq_true rfl) ⟨Nat.zero_le _, Nat.zero_le _⟩ dX6_work_24 rfl (fun r H locs h3 hI => ?_)
  subst h3
  refine m_ald hx hb hK hI 0 (by decide) (12 + 8 * c0 + 6) (by show _ < 140; omega) rfl (v := M 0 (12 + 8 * c0 + 6)) rfl dX6_work_27 ?_
  refine lv_iconst (v := 1) hx hb dX6_work_28 (by decide) ?_
  refine lv_icmp_ne (tgt := 111) hx hb dX6_work_29 (by decide) (fun c4 => ?_) (fun c4 => ?_)
  · skip
    refine lv_aload_n hx hb dX6_work_111 rfl (lv_at hl 2 rfl) ?_
    refine m_get hx hb hts hin hown hK hI 0 (by decide) (hts (.fieldLink RX6 7 "WinderLaddersModel" "s" "[I") (by decide +kernel)) (v := .ref (q 1)) rfl dX6_work_112 ?_
    refine lv_iload_n hx hb dX6_work_115 rfl (lv_at hl 3 rfl) ?_
    refine lv_bipush (v := 6) hx hb dX6_work_116 (by decide) ?_
    refine m_calls (As := [.int (nI c0), .int 6]) (rest := [.ref (q 1)]) hx hb hml hown hts hI (k_X6_at l (c0) (6)) (va_cwS 2 hts gX6_work_X6_at rfl rfl rfl (by decide +kernel) ⟨Nat.le_of_ble_eq_true rfl, Nat.le_of_ble_eq_true rfl⟩) rfl hl (Nat.le_of_ble_eq_true rfl) ⟨Nat.zero_le _, Nat.zero_le _⟩ dX6_work_118 rfl (fun r H locs h5 hI => ?_)
    subst h5
    refine lv_iconst (v := 1) hx hb dX6_work_121 (by decide) ?_
    refine m_ast hx hb hK hA hI 0 (by decide) (12 + 8 * c0 + 6) (by show _ < 140; omega) rfl dX6_work_122 (fun H locs hI => ?_)
    refine lv_aload_n hx hb dX6_work_123 rfl (lv_at hl 2 rfl) ?_
    refine m_get hx hb hts hin hown hK hI 0 (by decide) (hts (.fieldLink RX6 7 "WinderLaddersModel" "s" "[I") (by decide +kernel)) (v := .ref (q 1)) rfl dX6_work_124 ?_
    refine lv_iload_n hx hb dX6_work_127 rfl (lv_at hl 3 rfl) ?_
    refine lv_iconst (v := 4) hx hb dX6_work_128 (by decide) ?_
    refine m_calls (As := [.int (nI c0), .int 4]) (rest := [.ref (q 1)]) hx hb hml hown hts hI (k_X6_at l (c0) (4)) (va_cwS 2 hts gX6_work_X6_at rfl rfl rfl (by decide +kernel) ⟨Nat.le_of_ble_eq_true rfl, Nat.le_of_ble_eq_true rfl⟩) rfl hl (Nat.le_of_ble_eq_true rfl) ⟨Nat.zero_le _, Nat.zero_le _⟩ dX6_work_129 rfl (fun r H locs h6 hI => ?_)
    subst h6
    refine lv_iconst (v := 0) hx hb dX6_work_132 (by decide) ?_
    refine m_ast hx hb hK hA hI 0 (by decide) (12 + 8 * c0 + 4) (by show _ < 140; omega) rfl dX6_work_133 (fun H locs hI => ?_)
    refine lv_aload_n hx hb dX6_work_134 rfl (lv_at hl 2 rfl) ?_
    refine m_get hx hb hts hin hown hK hI 0 (by decide) (hts (.fieldLink RX6 7 "WinderLaddersModel" "s" "[I") (by decide +kernel)) (v := .ref (q 1)) rfl dX6_work_135 ?_
    refine lv_iload_n hx hb dX6_work_138 rfl (lv_at hl 3 rfl) ?_
    refine lv_iconst (v := 5) hx hb dX6_work_139 (by decide) ?_
    refine m_calls (As := [.int (nI c0), .int 5]) (rest := [.ref (q 1)]) hx hb hml hown hts hI (k_X6_at l (c0) (5)) (va_cwS 2 hts gX6_work_X6_at rfl rfl rfl (by decide +kernel) ⟨Nat.le_of_ble_eq_true rfl, Nat.le_of_ble_eq_true rfl⟩) rfl hl (Nat.le_of_ble_eq_true rfl) ⟨Nat.zero_le _, Nat.zero_le _⟩ dX6_work_140 rfl (fun r H locs h7 hI => ?_)
    subst h7
    refine lv_iconst (v := 0) hx hb dX6_work_143 (by decide) ?_
    refine m_ast hx hb hK hA hI 0 (by decide) (12 + 8 * c0 + 5) (by show _ < 140; omega) rfl dX6_work_144 (fun H locs hI => ?_)
    refine lv_aload_n hx hb dX6_work_145 rfl (lv_at hl 2 rfl) ?_
    refine m_get hx hb hts hin hown hK hI 0 (by decide) (hts (.fieldLink RX6 7 "WinderLaddersModel" "s" "[I") (by decide +kernel)) (v := .ref (q 1)) rfl dX6_work_146 ?_
    refine lv_iload_n hx hb dX6_work_149 rfl (lv_at hl 3 rfl) ?_
    refine lv_bipush (v := 7) hx hb dX6_work_150 (by decide) ?_
    refine m_calls (As := [.int (nI c0), .int 7]) (rest := [.ref (q 1)]) hx hb hml hown hts hI (k_X6_at l (c0) (7)) (va_cwS 2 hts gX6_work_X6_at rfl rfl rfl (by decide +kernel) ⟨Nat.le_of_ble_eq_true rfl, Nat.le_of_ble_eq_true rfl⟩) rfl hl (Nat.le_of_ble_eq_true rfl) ⟨Nat.zero_le _, Nat.zero_le _⟩ dX6_work_152 rfl (fun r H locs h8 hI => ?_)
    subst h8
    refine lv_dup2_11 hx hb dX6_work_155 rfl rfl ?_
    refine m_ald hx hb hK hI 0 (by decide) (12 + 8 * c0 + 7) (by show _ < 140; omega) rfl (v := M 0 (12 + 8 * c0 + 7)) ((mset_nj _ (by omega) _ _).trans ((mset_nj _ (by omega) _ _).trans (mset_nj _ (by omega) _ _))) dX6_work_156 ?_
    refine lv_iconst (v := 1) hx hb dX6_work_157 (by decide) ?_
    refine lv_iadd hx hb dX6_work_158 ?_
    refine m_ast hx hb hK hA hI 0 (by decide) (12 + 8 * c0 + 7) (by show _ < 140; omega) rfl dX6_work_159 (fun H locs hI => ?_)
    exact m_vret hx hb hr hI (by simp [workM, wkS, mset_0, ms0_0, ms0_ms0, upd_ne, upd_self, -Int32.not_lt, -Int32.not_le, c4]) dX6_work_160 hlocks
  · skip
    refine lv_aload_n hx hb dX6_work_32 rfl (lv_at hl 2 rfl) ?_
    refine m_get hx hb hts hin hown hK hI 0 (by decide) (hts (.fieldLink RX6 7 "WinderLaddersModel" "s" "[I") (by decide +kernel)) (v := .ref (q 1)) rfl dX6_work_33 ?_
    refine lv_iload_n hx hb dX6_work_36 rfl (lv_at hl 3 rfl) ?_
    refine lv_iconst (v := 4) hx hb dX6_work_37 (by decide) ?_
    refine m_calls (As := [.int (nI c0), .int 4]) (rest := [.ref (q 1)]) hx hb hml hown hts hI (k_X6_at l (c0) (4)) (va_cwS 2 hts gX6_work_X6_at rfl rfl rfl (by decide +kernel) ⟨Nat.le_of_ble_eq_true rfl, Nat.le_of_ble_eq_true rfl⟩) rfl hl (Nat.le_of_ble_eq_true rfl) ⟨Nat.zero_le _, Nat.zero_le _⟩ dX6_work_38 rfl (fun r H locs h9 hI => ?_)
    subst h9
    refine m_ald hx hb hK hI 0 (by decide) (12 + 8 * c0 + 4) (by show _ < 140; omega) rfl (v := M 0 (12 + 8 * c0 + 4)) rfl dX6_work_41 ?_
    refine m_calls (As := [.int (M 0 (12 + 8 * c0 + 4))]) (rest := []) hx hb hml hown hts hI (k_X6_size l (M 0 (12 + 8 * c0 + 4))) (va_cwS 1 hts gX6_work_X6_size rfl rfl rfl (by decide +kernel) ⟨Nat.le_of_ble_eq_true rfl, Nat.le_of_ble_eq_true rfl⟩) rfl hl (Nat.le_of_ble_eq_true rfl) ⟨Nat.zero_le _, Nat.zero_le _⟩ dX6_work_42 rfl (fun r H locs h10 hI => ?_)
    subst h10
    refine lv_aload_n hx hb dX6_work_45 rfl (lv_at hl 2 rfl) ?_
    refine m_get hx hb hts hin hown hK hI 0 (by decide) (hts (.fieldLink RX6 7 "WinderLaddersModel" "s" "[I") (by decide +kernel)) (v := .ref (q 1)) rfl dX6_work_46 ?_
    refine lv_iconst (v := 0) hx hb dX6_work_49 (by decide) ?_
    refine m_ald hx hb hK hI 0 (by decide) (0) (by show _ < 140; omega) rfl (v := M 0 0) rfl dX6_work_50 ?_
    refine lv_iconst (v := 2) hx hb dX6_work_51 (by decide) ?_
    refine lv_idiv hx hb dX6_work_52 (by decide) ?_
    refine lv_icmp_le (tgt := 111) hx hb dX6_work_53 (by decide) (fun c11 => ?_) (fun c11 => ?_)
    · skip
      refine lv_aload_n hx hb dX6_work_111 rfl (lv_at hl 2 rfl) ?_
      refine m_get hx hb hts hin hown hK hI 0 (by decide) (hts (.fieldLink RX6 7 "WinderLaddersModel" "s" "[I") (by decide +kernel)) (v := .ref (q 1)) rfl dX6_work_112 ?_
      refine lv_iload_n hx hb dX6_work_115 rfl (lv_at hl 3 rfl) ?_
      refine lv_bipush (v := 6) hx hb dX6_work_116 (by decide) ?_
      refine m_calls (As := [.int (nI c0), .int 6]) (rest := [.ref (q 1)]) hx hb hml hown hts hI (k_X6_at l (c0) (6)) (va_cwS 2 hts gX6_work_X6_at rfl rfl rfl (by decide +kernel) ⟨Nat.le_of_ble_eq_true rfl, Nat.le_of_ble_eq_true rfl⟩) rfl hl (Nat.le_of_ble_eq_true rfl) ⟨Nat.zero_le _, Nat.zero_le _⟩ dX6_work_118 rfl (fun r H locs h12 hI => ?_)
      subst h12
      refine lv_iconst (v := 1) hx hb dX6_work_121 (by decide) ?_
      refine m_ast hx hb hK hA hI 0 (by decide) (12 + 8 * c0 + 6) (by show _ < 140; omega) rfl dX6_work_122 (fun H locs hI => ?_)
      refine lv_aload_n hx hb dX6_work_123 rfl (lv_at hl 2 rfl) ?_
      refine m_get hx hb hts hin hown hK hI 0 (by decide) (hts (.fieldLink RX6 7 "WinderLaddersModel" "s" "[I") (by decide +kernel)) (v := .ref (q 1)) rfl dX6_work_124 ?_
      refine lv_iload_n hx hb dX6_work_127 rfl (lv_at hl 3 rfl) ?_
      refine lv_iconst (v := 4) hx hb dX6_work_128 (by decide) ?_
      refine m_calls (As := [.int (nI c0), .int 4]) (rest := [.ref (q 1)]) hx hb hml hown hts hI (k_X6_at l (c0) (4)) (va_cwS 2 hts gX6_work_X6_at rfl rfl rfl (by decide +kernel) ⟨Nat.le_of_ble_eq_true rfl, Nat.le_of_ble_eq_true rfl⟩) rfl hl (Nat.le_of_ble_eq_true rfl) ⟨Nat.zero_le _, Nat.zero_le _⟩ dX6_work_129 rfl (fun r H locs h13 hI => ?_)
      subst h13
      refine lv_iconst (v := 0) hx hb dX6_work_132 (by decide) ?_
      refine m_ast hx hb hK hA hI 0 (by decide) (12 + 8 * c0 + 4) (by show _ < 140; omega) rfl dX6_work_133 (fun H locs hI => ?_)
      refine lv_aload_n hx hb dX6_work_134 rfl (lv_at hl 2 rfl) ?_
      refine m_get hx hb hts hin hown hK hI 0 (by decide) (hts (.fieldLink RX6 7 "WinderLaddersModel" "s" "[I") (by decide +kernel)) (v := .ref (q 1)) rfl dX6_work_135 ?_
      refine lv_iload_n hx hb dX6_work_138 rfl (lv_at hl 3 rfl) ?_
      refine lv_iconst (v := 5) hx hb dX6_work_139 (by decide) ?_
      refine m_calls (As := [.int (nI c0), .int 5]) (rest := [.ref (q 1)]) hx hb hml hown hts hI (k_X6_at l (c0) (5)) (va_cwS 2 hts gX6_work_X6_at rfl rfl rfl (by decide +kernel) ⟨Nat.le_of_ble_eq_true rfl, Nat.le_of_ble_eq_true rfl⟩) rfl hl (Nat.le_of_ble_eq_true rfl) ⟨Nat.zero_le _, Nat.zero_le _⟩ dX6_work_140 rfl (fun r H locs h14 hI => ?_)
      subst h14
      refine lv_iconst (v := 0) hx hb dX6_work_143 (by decide) ?_
      refine m_ast hx hb hK hA hI 0 (by decide) (12 + 8 * c0 + 5) (by show _ < 140; omega) rfl dX6_work_144 (fun H locs hI => ?_)
      refine lv_aload_n hx hb dX6_work_145 rfl (lv_at hl 2 rfl) ?_
      refine m_get hx hb hts hin hown hK hI 0 (by decide) (hts (.fieldLink RX6 7 "WinderLaddersModel" "s" "[I") (by decide +kernel)) (v := .ref (q 1)) rfl dX6_work_146 ?_
      refine lv_iload_n hx hb dX6_work_149 rfl (lv_at hl 3 rfl) ?_
      refine lv_bipush (v := 7) hx hb dX6_work_150 (by decide) ?_
      refine m_calls (As := [.int (nI c0), .int 7]) (rest := [.ref (q 1)]) hx hb hml hown hts hI (k_X6_at l (c0) (7)) (va_cwS 2 hts gX6_work_X6_at rfl rfl rfl (by decide +kernel) ⟨Nat.le_of_ble_eq_true rfl, Nat.le_of_ble_eq_true rfl⟩) rfl hl (Nat.le_of_ble_eq_true rfl) ⟨Nat.zero_le _, Nat.zero_le _⟩ dX6_work_152 rfl (fun r H locs h15 hI => ?_)
      subst h15
      refine lv_dup2_11 hx hb dX6_work_155 rfl rfl ?_
      refine m_ald hx hb hK hI 0 (by decide) (12 + 8 * c0 + 7) (by show _ < 140; omega) rfl (v := M 0 (12 + 8 * c0 + 7)) ((mset_nj _ (by omega) _ _).trans ((mset_nj _ (by omega) _ _).trans (mset_nj _ (by omega) _ _))) dX6_work_156 ?_
      refine lv_iconst (v := 1) hx hb dX6_work_157 (by decide) ?_
      refine lv_iadd hx hb dX6_work_158 ?_
      refine m_ast hx hb hK hA hI 0 (by decide) (12 + 8 * c0 + 7) (by show _ < 140; omega) rfl dX6_work_159 (fun H locs hI => ?_)
      exact m_vret hx hb hr hI (by simp [workM, wkS, mset_0, ms0_0, ms0_ms0, upd_ne, upd_self, -Int32.not_lt, -Int32.not_le, c4, c11]) dX6_work_160 hlocks
    · skip
      refine lv_iload_n hx hb dX6_work_56 rfl (lv_at hl 0 rfl) ?_
      refine lv_iload_n hx hb dX6_work_57 rfl (lv_at hl 1 rfl) ?_
      refine lv_if_le (tgt := 65) hx hb dX6_work_58 (by decide) (fun c16 => ?_) (fun c16 => ?_)
      · skip
        refine lv_iload_n hx hb dX6_work_65 rfl (lv_at hl 1 rfl) ?_
        refine lv_if_ge (tgt := 73) hx hb dX6_work_66 (by decide) (fun c17 => ?_) (fun c17 => ?_)
        · skip
          refine lv_iconst (v := 0) hx hb dX6_work_73 (by decide) ?_
          refine lv_iadd hx hb dX6_work_74 ?_
          refine lv_istore_n (lv' := [(3, .int ((M 0 (12 + 8 * c0 + 3)) + 0)), (2, .int (rt (M 0) c0)), (0, .ref (q 0)), (1, .int (nI c0))]) hx hb dX6_work_75 rfl hl (by decide) rfl (fun ls hl => ?_)
          refine lv_aload_n hx hb dX6_work_76 rfl (lv_at hl 2 rfl) ?_
          refine m_get hx hb hts hin hown hK hI 0 (by decide) (hts (.fieldLink RX6 7 "WinderLaddersModel" "s" "[I") (by decide +kernel)) (v := .ref (q 1)) rfl dX6_work_77 ?_
          refine lv_iload_n hx hb dX6_work_80 rfl (lv_at hl 3 rfl) ?_
          refine lv_iconst (v := 3) hx hb dX6_work_81 (by decide) ?_
          refine m_calls (As := [.int (nI c0), .int 3]) (rest := [.ref (q 1)]) hx hb hml hown hts hI (k_X6_at l (c0) (3)) (va_cwS 2 hts gX6_work_X6_at rfl rfl rfl (by decide +kernel) ⟨Nat.le_of_ble_eq_true rfl, Nat.le_of_ble_eq_true rfl⟩) rfl hl (Nat.le_of_ble_eq_true rfl) ⟨Nat.zero_le _, Nat.zero_le _⟩ dX6_work_82 rfl (fun r H locs h18 hI => ?_)
          subst h18
          refine lv_iload_n hx hb dX6_work_85 rfl (lv_at hl 0 rfl) ?_
          refine lv_bipush (v := (-20)) hx hb dX6_work_86 (by decide) ?_
          refine lv_bipush (v := 20) hx hb dX6_work_88 (by decide) ?_
          refine m_calls (As := [.int ((M 0 (12 + 8 * c0 + 3)) + 0), .int ((-20)), .int 20]) (rest := [.int (nI (12 + 8 * c0 + 3)), .ref (q 1)]) hx hb hml hown hts hI (k_X6_in l ((M 0 (12 + 8 * c0 + 3)) + 0) (-20) 20) (va_cwS 3 hts gX6_work_X6_in rfl rfl rfl (by decide +kernel) ⟨Nat.le_of_ble_eq_true rfl, Nat.le_of_ble_eq_true rfl⟩) rfl hl (Nat.le_of_ble_eq_true rfl) ⟨Nat.zero_le _, Nat.zero_le _⟩ dX6_work_90 rfl (fun r H locs h20 hI => ?_)
          rcases h20 with ⟨b19, rfl⟩ | ⟨b19, rfl⟩
          · skip
            refine lv_if_eq (tgt := 100) hx hb dX6_work_93 (by decide) (fun c21 => absurd c21 (by decide)) (fun _ => ?_)
            refine lv_iload_n hx hb dX6_work_96 rfl (lv_at hl 0 rfl) ?_
            refine lv_goto (tgt := 110) hx hb dX6_work_97 (by decide) ?_
            refine m_ast hx hb hK hA hI 0 (by decide) (12 + 8 * c0 + 3) (by show _ < 140; omega) rfl dX6_work_110 (fun H locs hI => ?_)
            refine lv_aload_n hx hb dX6_work_111 rfl (lv_at hl 2 rfl) ?_
            refine m_get hx hb hts hin hown hK hI 0 (by decide) (hts (.fieldLink RX6 7 "WinderLaddersModel" "s" "[I") (by decide +kernel)) (v := .ref (q 1)) rfl dX6_work_112 ?_
            refine lv_iload_n hx hb dX6_work_115 rfl (lv_at hl 3 rfl) ?_
            refine lv_bipush (v := 6) hx hb dX6_work_116 (by decide) ?_
            refine m_calls (As := [.int (nI c0), .int 6]) (rest := [.ref (q 1)]) hx hb hml hown hts hI (k_X6_at l (c0) (6)) (va_cwS 2 hts gX6_work_X6_at rfl rfl rfl (by decide +kernel) ⟨Nat.le_of_ble_eq_true rfl, Nat.le_of_ble_eq_true rfl⟩) rfl hl (Nat.le_of_ble_eq_true rfl) ⟨Nat.zero_le _, Nat.zero_le _⟩ dX6_work_118 rfl (fun r H locs h22 hI => ?_)
            subst h22
            refine lv_iconst (v := 1) hx hb dX6_work_121 (by decide) ?_
            refine m_ast hx hb hK hA hI 0 (by decide) (12 + 8 * c0 + 6) (by show _ < 140; omega) rfl dX6_work_122 (fun H locs hI => ?_)
            refine lv_aload_n hx hb dX6_work_123 rfl (lv_at hl 2 rfl) ?_
            refine m_get hx hb hts hin hown hK hI 0 (by decide) (hts (.fieldLink RX6 7 "WinderLaddersModel" "s" "[I") (by decide +kernel)) (v := .ref (q 1)) rfl dX6_work_124 ?_
            refine lv_iload_n hx hb dX6_work_127 rfl (lv_at hl 3 rfl) ?_
            refine lv_iconst (v := 4) hx hb dX6_work_128 (by decide) ?_
            refine m_calls (As := [.int (nI c0), .int 4]) (rest := [.ref (q 1)]) hx hb hml hown hts hI (k_X6_at l (c0) (4)) (va_cwS 2 hts gX6_work_X6_at rfl rfl rfl (by decide +kernel) ⟨Nat.le_of_ble_eq_true rfl, Nat.le_of_ble_eq_true rfl⟩) rfl hl (Nat.le_of_ble_eq_true rfl) ⟨Nat.zero_le _, Nat.zero_le _⟩ dX6_work_129 rfl (fun r H locs h23 hI => ?_)
            subst h23
            refine lv_iconst (v := 0) hx hb dX6_work_132 (by decide) ?_
            refine m_ast hx hb hK hA hI 0 (by decide) (12 + 8 * c0 + 4) (by show _ < 140; omega) rfl dX6_work_133 (fun H locs hI => ?_)
            refine lv_aload_n hx hb dX6_work_134 rfl (lv_at hl 2 rfl) ?_
            refine m_get hx hb hts hin hown hK hI 0 (by decide) (hts (.fieldLink RX6 7 "WinderLaddersModel" "s" "[I") (by decide +kernel)) (v := .ref (q 1)) rfl dX6_work_135 ?_
            refine lv_iload_n hx hb dX6_work_138 rfl (lv_at hl 3 rfl) ?_
            refine lv_iconst (v := 5) hx hb dX6_work_139 (by decide) ?_
            refine m_calls (As := [.int (nI c0), .int 5]) (rest := [.ref (q 1)]) hx hb hml hown hts hI (k_X6_at l (c0) (5)) (va_cwS 2 hts gX6_work_X6_at rfl rfl rfl (by decide +kernel) ⟨Nat.le_of_ble_eq_true rfl, Nat.le_of_ble_eq_true rfl⟩) rfl hl (Nat.le_of_ble_eq_true rfl) ⟨Nat.zero_le _, Nat.zero_le _⟩ dX6_work_140 rfl (fun r H locs h24 hI => ?_)
            subst h24
            refine lv_iconst (v := 0) hx hb dX6_work_143 (by decide) ?_
            refine m_ast hx hb hK hA hI 0 (by decide) (12 + 8 * c0 + 5) (by show _ < 140; omega) rfl dX6_work_144 (fun H locs hI => ?_)
            refine lv_aload_n hx hb dX6_work_145 rfl (lv_at hl 2 rfl) ?_
            refine m_get hx hb hts hin hown hK hI 0 (by decide) (hts (.fieldLink RX6 7 "WinderLaddersModel" "s" "[I") (by decide +kernel)) (v := .ref (q 1)) rfl dX6_work_146 ?_
            refine lv_iload_n hx hb dX6_work_149 rfl (lv_at hl 3 rfl) ?_
            refine lv_bipush (v := 7) hx hb dX6_work_150 (by decide) ?_
            refine m_calls (As := [.int (nI c0), .int 7]) (rest := [.ref (q 1)]) hx hb hml hown hts hI (k_X6_at l (c0) (7)) (va_cwS 2 hts gX6_work_X6_at rfl rfl rfl (by decide +kernel) ⟨Nat.le_of_ble_eq_true rfl, Nat.le_of_ble_eq_true rfl⟩) rfl hl (Nat.le_of_ble_eq_true rfl) ⟨Nat.zero_le _, Nat.zero_le _⟩ dX6_work_152 rfl (fun r H locs h25 hI => ?_)
            subst h25
            refine lv_dup2_11 hx hb dX6_work_155 rfl rfl ?_
            refine m_ald hx hb hK hI 0 (by decide) (12 + 8 * c0 + 7) (by show _ < 140; omega) rfl (v := M 0 (12 + 8 * c0 + 7)) ((mset_nj _ (by omega) _ _).trans ((mset_nj _ (by omega) _ _).trans ((mset_nj _ (by omega) _ _).trans (mset_nj _ (by omega) _ _)))) dX6_work_156 ?_
            refine lv_iconst (v := 1) hx hb dX6_work_157 (by decide) ?_
            refine lv_iadd hx hb dX6_work_158 ?_
            refine m_ast hx hb hK hA hI 0 (by decide) (12 + 8 * c0 + 7) (by show _ < 140; omega) rfl dX6_work_159 (fun H locs hI => ?_)
            exact m_vret hx hb hr hI (by simp [workM, wkS, mset_0, ms0_0, ms0_ms0, upd_ne, upd_self, -Int32.not_lt, -Int32.not_le, c4, c11, c16, c17, b19]) dX6_work_160 hlocks
          · skip
            refine lv_if_eq (tgt := 100) hx hb dX6_work_93 (by decide) (fun _ => ?_) (fun c26 => absurd (by decide) c26)
            refine lv_aload_n hx hb dX6_work_100 rfl (lv_at hl 2 rfl) ?_
            refine m_get hx hb hts hin hown hK hI 0 (by decide) (hts (.fieldLink RX6 7 "WinderLaddersModel" "s" "[I") (by decide +kernel)) (v := .ref (q 1)) rfl dX6_work_101 ?_
            refine lv_iload_n hx hb dX6_work_104 rfl (lv_at hl 3 rfl) ?_
            refine lv_iconst (v := 3) hx hb dX6_work_105 (by decide) ?_
            refine m_calls (As := [.int (nI c0), .int 3]) (rest := [.ref (q 1), .int (nI (12 + 8 * c0 + 3)), .ref (q 1)]) hx hb hml hown hts hI (k_X6_at l (c0) (3)) (va_cwS 2 hts gX6_work_X6_at rfl rfl rfl (by decide +kernel) ⟨Nat.le_of_ble_eq_true rfl, Nat.le_of_ble_eq_true rfl⟩) rfl hl (Nat.le_of_ble_eq_true rfl) ⟨Nat.zero_le _, Nat.zero_le _⟩ dX6_work_106 rfl (fun r H locs h27 hI => ?_)
            subst h27
            refine m_ald hx hb hK hI 0 (by decide) (12 + 8 * c0 + 3) (by show _ < 140; omega) rfl (v := M 0 (12 + 8 * c0 + 3)) rfl dX6_work_109 ?_
            refine m_ast hx hb hK hA hI 0 (by decide) (12 + 8 * c0 + 3) (by show _ < 140; omega) rfl dX6_work_110 (fun H locs hI => ?_)
            refine lv_aload_n hx hb dX6_work_111 rfl (lv_at hl 2 rfl) ?_
            refine m_get hx hb hts hin hown hK hI 0 (by decide) (hts (.fieldLink RX6 7 "WinderLaddersModel" "s" "[I") (by decide +kernel)) (v := .ref (q 1)) rfl dX6_work_112 ?_
            refine lv_iload_n hx hb dX6_work_115 rfl (lv_at hl 3 rfl) ?_
            refine lv_bipush (v := 6) hx hb dX6_work_116 (by decide) ?_
            refine m_calls (As := [.int (nI c0), .int 6]) (rest := [.ref (q 1)]) hx hb hml hown hts hI (k_X6_at l (c0) (6)) (va_cwS 2 hts gX6_work_X6_at rfl rfl rfl (by decide +kernel) ⟨Nat.le_of_ble_eq_true rfl, Nat.le_of_ble_eq_true rfl⟩) rfl hl (Nat.le_of_ble_eq_true rfl) ⟨Nat.zero_le _, Nat.zero_le _⟩ dX6_work_118 rfl (fun r H locs h28 hI => ?_)
            subst h28
            refine lv_iconst (v := 1) hx hb dX6_work_121 (by decide) ?_
            refine m_ast hx hb hK hA hI 0 (by decide) (12 + 8 * c0 + 6) (by show _ < 140; omega) rfl dX6_work_122 (fun H locs hI => ?_)
            refine lv_aload_n hx hb dX6_work_123 rfl (lv_at hl 2 rfl) ?_
            refine m_get hx hb hts hin hown hK hI 0 (by decide) (hts (.fieldLink RX6 7 "WinderLaddersModel" "s" "[I") (by decide +kernel)) (v := .ref (q 1)) rfl dX6_work_124 ?_
            refine lv_iload_n hx hb dX6_work_127 rfl (lv_at hl 3 rfl) ?_
            refine lv_iconst (v := 4) hx hb dX6_work_128 (by decide) ?_
            refine m_calls (As := [.int (nI c0), .int 4]) (rest := [.ref (q 1)]) hx hb hml hown hts hI (k_X6_at l (c0) (4)) (va_cwS 2 hts gX6_work_X6_at rfl rfl rfl (by decide +kernel) ⟨Nat.le_of_ble_eq_true rfl, Nat.le_of_ble_eq_true rfl⟩) rfl hl (Nat.le_of_ble_eq_true rfl) ⟨Nat.zero_le _, Nat.zero_le _⟩ dX6_work_129 rfl (fun r H locs h29 hI => ?_)
            subst h29
            refine lv_iconst (v := 0) hx hb dX6_work_132 (by decide) ?_
            refine m_ast hx hb hK hA hI 0 (by decide) (12 + 8 * c0 + 4) (by show _ < 140; omega) rfl dX6_work_133 (fun H locs hI => ?_)
            refine lv_aload_n hx hb dX6_work_134 rfl (lv_at hl 2 rfl) ?_
            refine m_get hx hb hts hin hown hK hI 0 (by decide) (hts (.fieldLink RX6 7 "WinderLaddersModel" "s" "[I") (by decide +kernel)) (v := .ref (q 1)) rfl dX6_work_135 ?_
            refine lv_iload_n hx hb dX6_work_138 rfl (lv_at hl 3 rfl) ?_
            refine lv_iconst (v := 5) hx hb dX6_work_139 (by decide) ?_
            refine m_calls (As := [.int (nI c0), .int 5]) (rest := [.ref (q 1)]) hx hb hml hown hts hI (k_X6_at l (c0) (5)) (va_cwS 2 hts gX6_work_X6_at rfl rfl rfl (by decide +kernel) ⟨Nat.le_of_ble_eq_true rfl, Nat.le_of_ble_eq_true rfl⟩) rfl hl (Nat.le_of_ble_eq_true rfl) ⟨Nat.zero_le _, Nat.zero_le _⟩ dX6_work_140 rfl (fun r H locs h30 hI => ?_)
            subst h30
            refine lv_iconst (v := 0) hx hb dX6_work_143 (by decide) ?_
            refine m_ast hx hb hK hA hI 0 (by decide) (12 + 8 * c0 + 5) (by show _ < 140; omega) rfl dX6_work_144 (fun H locs hI => ?_)
            refine lv_aload_n hx hb dX6_work_145 rfl (lv_at hl 2 rfl) ?_
            refine m_get hx hb hts hin hown hK hI 0 (by decide) (hts (.fieldLink RX6 7 "WinderLaddersModel" "s" "[I") (by decide +kernel)) (v := .ref (q 1)) rfl dX6_work_146 ?_
            refine lv_iload_n hx hb dX6_work_149 rfl (lv_at hl 3 rfl) ?_
            refine lv_bipush (v := 7) hx hb dX6_work_150 (by decide) ?_
            refine m_calls (As := [.int (nI c0), .int 7]) (rest := [.ref (q 1)]) hx hb hml hown hts hI (k_X6_at l (c0) (7)) (va_cwS 2 hts gX6_work_X6_at rfl rfl rfl (by decide +kernel) ⟨Nat.le_of_ble_eq_true rfl, Nat.le_of_ble_eq_true rfl⟩) rfl hl (Nat.le_of_ble_eq_true rfl) ⟨Nat.zero_le _, Nat.zero_le _⟩ dX6_work_152 rfl (fun r H locs h31 hI => ?_)
            subst h31
            refine lv_dup2_11 hx hb dX6_work_155 rfl rfl ?_
            refine m_ald hx hb hK hI 0 (by decide) (12 + 8 * c0 + 7) (by show _ < 140; omega) rfl (v := M 0 (12 + 8 * c0 + 7)) ((mset_nj _ (by omega) _ _).trans ((mset_nj _ (by omega) _ _).trans ((mset_nj _ (by omega) _ _).trans (mset_nj _ (by omega) _ _)))) dX6_work_156 ?_
            refine lv_iconst (v := 1) hx hb dX6_work_157 (by decide) ?_
            refine lv_iadd hx hb dX6_work_158 ?_
            refine m_ast hx hb hK hA hI 0 (by decide) (12 + 8 * c0 + 7) (by show _ < 140; omega) rfl dX6_work_159 (fun H locs hI => ?_)
            exact m_vret hx hb hr hI (by simp [workM, wkS, mset_0, ms0_0, ms0_ms0, upd_ne, upd_self, -Int32.not_lt, -Int32.not_le, c4, c11, c16, c17, b19]) dX6_work_160 hlocks
        · skip
          refine lv_iconst (v := 1) hx hb dX6_work_69 (by decide) ?_
          refine lv_goto (tgt := 74) hx hb dX6_work_70 (by decide) ?_
          refine lv_iadd hx hb dX6_work_74 ?_
          refine lv_istore_n (lv' := [(3, .int ((M 0 (12 + 8 * c0 + 3)) + 1)), (2, .int (rt (M 0) c0)), (0, .ref (q 0)), (1, .int (nI c0))]) hx hb dX6_work_75 rfl hl (by decide) rfl (fun ls hl => ?_)
          refine lv_aload_n hx hb dX6_work_76 rfl (lv_at hl 2 rfl) ?_
          refine m_get hx hb hts hin hown hK hI 0 (by decide) (hts (.fieldLink RX6 7 "WinderLaddersModel" "s" "[I") (by decide +kernel)) (v := .ref (q 1)) rfl dX6_work_77 ?_
          refine lv_iload_n hx hb dX6_work_80 rfl (lv_at hl 3 rfl) ?_
          refine lv_iconst (v := 3) hx hb dX6_work_81 (by decide) ?_
          refine m_calls (As := [.int (nI c0), .int 3]) (rest := [.ref (q 1)]) hx hb hml hown hts hI (k_X6_at l (c0) (3)) (va_cwS 2 hts gX6_work_X6_at rfl rfl rfl (by decide +kernel) ⟨Nat.le_of_ble_eq_true rfl, Nat.le_of_ble_eq_true rfl⟩) rfl hl (Nat.le_of_ble_eq_true rfl) ⟨Nat.zero_le _, Nat.zero_le _⟩ dX6_work_82 rfl (fun r H locs h32 hI => ?_)
          subst h32
          refine lv_iload_n hx hb dX6_work_85 rfl (lv_at hl 0 rfl) ?_
          refine lv_bipush (v := (-20)) hx hb dX6_work_86 (by decide) ?_
          refine lv_bipush (v := 20) hx hb dX6_work_88 (by decide) ?_
          refine m_calls (As := [.int ((M 0 (12 + 8 * c0 + 3)) + 1), .int ((-20)), .int 20]) (rest := [.int (nI (12 + 8 * c0 + 3)), .ref (q 1)]) hx hb hml hown hts hI (k_X6_in l ((M 0 (12 + 8 * c0 + 3)) + 1) (-20) 20) (va_cwS 3 hts gX6_work_X6_in rfl rfl rfl (by decide +kernel) ⟨Nat.le_of_ble_eq_true rfl, Nat.le_of_ble_eq_true rfl⟩) rfl hl (Nat.le_of_ble_eq_true rfl) ⟨Nat.zero_le _, Nat.zero_le _⟩ dX6_work_90 rfl (fun r H locs h34 hI => ?_)
          rcases h34 with ⟨b33, rfl⟩ | ⟨b33, rfl⟩
          · skip
            refine lv_if_eq (tgt := 100) hx hb dX6_work_93 (by decide) (fun c35 => absurd c35 (by decide)) (fun _ => ?_)
            refine lv_iload_n hx hb dX6_work_96 rfl (lv_at hl 0 rfl) ?_
            refine lv_goto (tgt := 110) hx hb dX6_work_97 (by decide) ?_
            refine m_ast hx hb hK hA hI 0 (by decide) (12 + 8 * c0 + 3) (by show _ < 140; omega) rfl dX6_work_110 (fun H locs hI => ?_)
            refine lv_aload_n hx hb dX6_work_111 rfl (lv_at hl 2 rfl) ?_
            refine m_get hx hb hts hin hown hK hI 0 (by decide) (hts (.fieldLink RX6 7 "WinderLaddersModel" "s" "[I") (by decide +kernel)) (v := .ref (q 1)) rfl dX6_work_112 ?_
            refine lv_iload_n hx hb dX6_work_115 rfl (lv_at hl 3 rfl) ?_
            refine lv_bipush (v := 6) hx hb dX6_work_116 (by decide) ?_
            refine m_calls (As := [.int (nI c0), .int 6]) (rest := [.ref (q 1)]) hx hb hml hown hts hI (k_X6_at l (c0) (6)) (va_cwS 2 hts gX6_work_X6_at rfl rfl rfl (by decide +kernel) ⟨Nat.le_of_ble_eq_true rfl, Nat.le_of_ble_eq_true rfl⟩) rfl hl (Nat.le_of_ble_eq_true rfl) ⟨Nat.zero_le _, Nat.zero_le _⟩ dX6_work_118 rfl (fun r H locs h36 hI => ?_)
            subst h36
            refine lv_iconst (v := 1) hx hb dX6_work_121 (by decide) ?_
            refine m_ast hx hb hK hA hI 0 (by decide) (12 + 8 * c0 + 6) (by show _ < 140; omega) rfl dX6_work_122 (fun H locs hI => ?_)
            refine lv_aload_n hx hb dX6_work_123 rfl (lv_at hl 2 rfl) ?_
            refine m_get hx hb hts hin hown hK hI 0 (by decide) (hts (.fieldLink RX6 7 "WinderLaddersModel" "s" "[I") (by decide +kernel)) (v := .ref (q 1)) rfl dX6_work_124 ?_
            refine lv_iload_n hx hb dX6_work_127 rfl (lv_at hl 3 rfl) ?_
            refine lv_iconst (v := 4) hx hb dX6_work_128 (by decide) ?_
            refine m_calls (As := [.int (nI c0), .int 4]) (rest := [.ref (q 1)]) hx hb hml hown hts hI (k_X6_at l (c0) (4)) (va_cwS 2 hts gX6_work_X6_at rfl rfl rfl (by decide +kernel) ⟨Nat.le_of_ble_eq_true rfl, Nat.le_of_ble_eq_true rfl⟩) rfl hl (Nat.le_of_ble_eq_true rfl) ⟨Nat.zero_le _, Nat.zero_le _⟩ dX6_work_129 rfl (fun r H locs h37 hI => ?_)
            subst h37
            refine lv_iconst (v := 0) hx hb dX6_work_132 (by decide) ?_
            refine m_ast hx hb hK hA hI 0 (by decide) (12 + 8 * c0 + 4) (by show _ < 140; omega) rfl dX6_work_133 (fun H locs hI => ?_)
            refine lv_aload_n hx hb dX6_work_134 rfl (lv_at hl 2 rfl) ?_
            refine m_get hx hb hts hin hown hK hI 0 (by decide) (hts (.fieldLink RX6 7 "WinderLaddersModel" "s" "[I") (by decide +kernel)) (v := .ref (q 1)) rfl dX6_work_135 ?_
            refine lv_iload_n hx hb dX6_work_138 rfl (lv_at hl 3 rfl) ?_
            refine lv_iconst (v := 5) hx hb dX6_work_139 (by decide) ?_
            refine m_calls (As := [.int (nI c0), .int 5]) (rest := [.ref (q 1)]) hx hb hml hown hts hI (k_X6_at l (c0) (5)) (va_cwS 2 hts gX6_work_X6_at rfl rfl rfl (by decide +kernel) ⟨Nat.le_of_ble_eq_true rfl, Nat.le_of_ble_eq_true rfl⟩) rfl hl (Nat.le_of_ble_eq_true rfl) ⟨Nat.zero_le _, Nat.zero_le _⟩ dX6_work_140 rfl (fun r H locs h38 hI => ?_)
            subst h38
            refine lv_iconst (v := 0) hx hb dX6_work_143 (by decide) ?_
            refine m_ast hx hb hK hA hI 0 (by decide) (12 + 8 * c0 + 5) (by show _ < 140; omega) rfl dX6_work_144 (fun H locs hI => ?_)
            refine lv_aload_n hx hb dX6_work_145 rfl (lv_at hl 2 rfl) ?_
            refine m_get hx hb hts hin hown hK hI 0 (by decide) (hts (.fieldLink RX6 7 "WinderLaddersModel" "s" "[I") (by decide +kernel)) (v := .ref (q 1)) rfl dX6_work_146 ?_
            refine lv_iload_n hx hb dX6_work_149 rfl (lv_at hl 3 rfl) ?_
            refine lv_bipush (v := 7) hx hb dX6_work_150 (by decide) ?_
            refine m_calls (As := [.int (nI c0), .int 7]) (rest := [.ref (q 1)]) hx hb hml hown hts hI (k_X6_at l (c0) (7)) (va_cwS 2 hts gX6_work_X6_at rfl rfl rfl (by decide +kernel) ⟨Nat.le_of_ble_eq_true rfl, Nat.le_of_ble_eq_true rfl⟩) rfl hl (Nat.le_of_ble_eq_true rfl) ⟨Nat.zero_le _, Nat.zero_le _⟩ dX6_work_152 rfl (fun r H locs h39 hI => ?_)
            subst h39
            refine lv_dup2_11 hx hb dX6_work_155 rfl rfl ?_
            refine m_ald hx hb hK hI 0 (by decide) (12 + 8 * c0 + 7) (by show _ < 140; omega) rfl (v := M 0 (12 + 8 * c0 + 7)) ((mset_nj _ (by omega) _ _).trans ((mset_nj _ (by omega) _ _).trans ((mset_nj _ (by omega) _ _).trans (mset_nj _ (by omega) _ _)))) dX6_work_156 ?_
            refine lv_iconst (v := 1) hx hb dX6_work_157 (by decide) ?_
            refine lv_iadd hx hb dX6_work_158 ?_
            refine m_ast hx hb hK hA hI 0 (by decide) (12 + 8 * c0 + 7) (by show _ < 140; omega) rfl dX6_work_159 (fun H locs hI => ?_)
            exact m_vret hx hb hr hI (by simp [workM, wkS, mset_0, ms0_0, ms0_ms0, upd_ne, upd_self, -Int32.not_lt, -Int32.not_le, c4, c11, c16, c17, b33]) dX6_work_160 hlocks
          · skip
            refine lv_if_eq (tgt := 100) hx hb dX6_work_93 (by decide) (fun _ => ?_) (fun c40 => absurd (by decide) c40)
            refine lv_aload_n hx hb dX6_work_100 rfl (lv_at hl 2 rfl) ?_
            refine m_get hx hb hts hin hown hK hI 0 (by decide) (hts (.fieldLink RX6 7 "WinderLaddersModel" "s" "[I") (by decide +kernel)) (v := .ref (q 1)) rfl dX6_work_101 ?_
            refine lv_iload_n hx hb dX6_work_104 rfl (lv_at hl 3 rfl) ?_
            refine lv_iconst (v := 3) hx hb dX6_work_105 (by decide) ?_
            refine m_calls (As := [.int (nI c0), .int 3]) (rest := [.ref (q 1), .int (nI (12 + 8 * c0 + 3)), .ref (q 1)]) hx hb hml hown hts hI (k_X6_at l (c0) (3)) (va_cwS 2 hts gX6_work_X6_at rfl rfl rfl (by decide +kernel) ⟨Nat.le_of_ble_eq_true rfl, Nat.le_of_ble_eq_true rfl⟩) rfl hl (Nat.le_of_ble_eq_true rfl) ⟨Nat.zero_le _, Nat.zero_le _⟩ dX6_work_106 rfl (fun r H locs h41 hI => ?_)
            subst h41
            refine m_ald hx hb hK hI 0 (by decide) (12 + 8 * c0 + 3) (by show _ < 140; omega) rfl (v := M 0 (12 + 8 * c0 + 3)) rfl dX6_work_109 ?_
            refine m_ast hx hb hK hA hI 0 (by decide) (12 + 8 * c0 + 3) (by show _ < 140; omega) rfl dX6_work_110 (fun H locs hI => ?_)
            refine lv_aload_n hx hb dX6_work_111 rfl (lv_at hl 2 rfl) ?_
            refine m_get hx hb hts hin hown hK hI 0 (by decide) (hts (.fieldLink RX6 7 "WinderLaddersModel" "s" "[I") (by decide +kernel)) (v := .ref (q 1)) rfl dX6_work_112 ?_
            refine lv_iload_n hx hb dX6_work_115 rfl (lv_at hl 3 rfl) ?_
            refine lv_bipush (v := 6) hx hb dX6_work_116 (by decide) ?_
            refine m_calls (As := [.int (nI c0), .int 6]) (rest := [.ref (q 1)]) hx hb hml hown hts hI (k_X6_at l (c0) (6)) (va_cwS 2 hts gX6_work_X6_at rfl rfl rfl (by decide +kernel) ⟨Nat.le_of_ble_eq_true rfl, Nat.le_of_ble_eq_true rfl⟩) rfl hl (Nat.le_of_ble_eq_true rfl) ⟨Nat.zero_le _, Nat.zero_le _⟩ dX6_work_118 rfl (fun r H locs h42 hI => ?_)
            subst h42
            refine lv_iconst (v := 1) hx hb dX6_work_121 (by decide) ?_
            refine m_ast hx hb hK hA hI 0 (by decide) (12 + 8 * c0 + 6) (by show _ < 140; omega) rfl dX6_work_122 (fun H locs hI => ?_)
            refine lv_aload_n hx hb dX6_work_123 rfl (lv_at hl 2 rfl) ?_
            refine m_get hx hb hts hin hown hK hI 0 (by decide) (hts (.fieldLink RX6 7 "WinderLaddersModel" "s" "[I") (by decide +kernel)) (v := .ref (q 1)) rfl dX6_work_124 ?_
            refine lv_iload_n hx hb dX6_work_127 rfl (lv_at hl 3 rfl) ?_
            refine lv_iconst (v := 4) hx hb dX6_work_128 (by decide) ?_
            refine m_calls (As := [.int (nI c0), .int 4]) (rest := [.ref (q 1)]) hx hb hml hown hts hI (k_X6_at l (c0) (4)) (va_cwS 2 hts gX6_work_X6_at rfl rfl rfl (by decide +kernel) ⟨Nat.le_of_ble_eq_true rfl, Nat.le_of_ble_eq_true rfl⟩) rfl hl (Nat.le_of_ble_eq_true rfl) ⟨Nat.zero_le _, Nat.zero_le _⟩ dX6_work_129 rfl (fun r H locs h43 hI => ?_)
            subst h43
            refine lv_iconst (v := 0) hx hb dX6_work_132 (by decide) ?_
            refine m_ast hx hb hK hA hI 0 (by decide) (12 + 8 * c0 + 4) (by show _ < 140; omega) rfl dX6_work_133 (fun H locs hI => ?_)
            refine lv_aload_n hx hb dX6_work_134 rfl (lv_at hl 2 rfl) ?_
            refine m_get hx hb hts hin hown hK hI 0 (by decide) (hts (.fieldLink RX6 7 "WinderLaddersModel" "s" "[I") (by decide +kernel)) (v := .ref (q 1)) rfl dX6_work_135 ?_
            refine lv_iload_n hx hb dX6_work_138 rfl (lv_at hl 3 rfl) ?_
            refine lv_iconst (v := 5) hx hb dX6_work_139 (by decide) ?_
            refine m_calls (As := [.int (nI c0), .int 5]) (rest := [.ref (q 1)]) hx hb hml hown hts hI (k_X6_at l (c0) (5)) (va_cwS 2 hts gX6_work_X6_at rfl rfl rfl (by decide +kernel) ⟨Nat.le_of_ble_eq_true rfl, Nat.le_of_ble_eq_true rfl⟩) rfl hl (Nat.le_of_ble_eq_true rfl) ⟨Nat.zero_le _, Nat.zero_le _⟩ dX6_work_140 rfl (fun r H locs h44 hI => ?_)
            subst h44
            refine lv_iconst (v := 0) hx hb dX6_work_143 (by decide) ?_
            refine m_ast hx hb hK hA hI 0 (by decide) (12 + 8 * c0 + 5) (by show _ < 140; omega) rfl dX6_work_144 (fun H locs hI => ?_)
            refine lv_aload_n hx hb dX6_work_145 rfl (lv_at hl 2 rfl) ?_
            refine m_get hx hb hts hin hown hK hI 0 (by decide) (hts (.fieldLink RX6 7 "WinderLaddersModel" "s" "[I") (by decide +kernel)) (v := .ref (q 1)) rfl dX6_work_146 ?_
            refine lv_iload_n hx hb dX6_work_149 rfl (lv_at hl 3 rfl) ?_
            refine lv_bipush (v := 7) hx hb dX6_work_150 (by decide) ?_
            refine m_calls (As := [.int (nI c0), .int 7]) (rest := [.ref (q 1)]) hx hb hml hown hts hI (k_X6_at l (c0) (7)) (va_cwS 2 hts gX6_work_X6_at rfl rfl rfl (by decide +kernel) ⟨Nat.le_of_ble_eq_true rfl, Nat.le_of_ble_eq_true rfl⟩) rfl hl (Nat.le_of_ble_eq_true rfl) ⟨Nat.zero_le _, Nat.zero_le _⟩ dX6_work_152 rfl (fun r H locs h45 hI => ?_)
            subst h45
            refine lv_dup2_11 hx hb dX6_work_155 rfl rfl ?_
            refine m_ald hx hb hK hI 0 (by decide) (12 + 8 * c0 + 7) (by show _ < 140; omega) rfl (v := M 0 (12 + 8 * c0 + 7)) ((mset_nj _ (by omega) _ _).trans ((mset_nj _ (by omega) _ _).trans ((mset_nj _ (by omega) _ _).trans (mset_nj _ (by omega) _ _)))) dX6_work_156 ?_
            refine lv_iconst (v := 1) hx hb dX6_work_157 (by decide) ?_
            refine lv_iadd hx hb dX6_work_158 ?_
            refine m_ast hx hb hK hA hI 0 (by decide) (12 + 8 * c0 + 7) (by show _ < 140; omega) rfl dX6_work_159 (fun H locs hI => ?_)
            exact m_vret hx hb hr hI (by simp [workM, wkS, mset_0, ms0_0, ms0_ms0, upd_ne, upd_self, -Int32.not_lt, -Int32.not_le, c4, c11, c16, c17, b33]) dX6_work_160 hlocks
      · skip
        refine lv_iconst (v := (-1)) hx hb dX6_work_61 (by decide) ?_
        refine lv_goto (tgt := 74) hx hb dX6_work_62 (by decide) ?_
        refine lv_iadd hx hb dX6_work_74 ?_
        refine lv_istore_n (lv' := [(3, .int ((M 0 (12 + 8 * c0 + 3)) + (-1))), (2, .int (rt (M 0) c0)), (0, .ref (q 0)), (1, .int (nI c0))]) hx hb dX6_work_75 rfl hl (by decide) rfl (fun ls hl => ?_)
        refine lv_aload_n hx hb dX6_work_76 rfl (lv_at hl 2 rfl) ?_
        refine m_get hx hb hts hin hown hK hI 0 (by decide) (hts (.fieldLink RX6 7 "WinderLaddersModel" "s" "[I") (by decide +kernel)) (v := .ref (q 1)) rfl dX6_work_77 ?_
        refine lv_iload_n hx hb dX6_work_80 rfl (lv_at hl 3 rfl) ?_
        refine lv_iconst (v := 3) hx hb dX6_work_81 (by decide) ?_
        refine m_calls (As := [.int (nI c0), .int 3]) (rest := [.ref (q 1)]) hx hb hml hown hts hI (k_X6_at l (c0) (3)) (va_cwS 2 hts gX6_work_X6_at rfl rfl rfl (by decide +kernel) ⟨Nat.le_of_ble_eq_true rfl, Nat.le_of_ble_eq_true rfl⟩) rfl hl (Nat.le_of_ble_eq_true rfl) ⟨Nat.zero_le _, Nat.zero_le _⟩ dX6_work_82 rfl (fun r H locs h46 hI => ?_)
        subst h46
        refine lv_iload_n hx hb dX6_work_85 rfl (lv_at hl 0 rfl) ?_
        refine lv_bipush (v := (-20)) hx hb dX6_work_86 (by decide) ?_
        refine lv_bipush (v := 20) hx hb dX6_work_88 (by decide) ?_
        refine m_calls (As := [.int ((M 0 (12 + 8 * c0 + 3)) + (-1)), .int ((-20)), .int 20]) (rest := [.int (nI (12 + 8 * c0 + 3)), .ref (q 1)]) hx hb hml hown hts hI (k_X6_in l ((M 0 (12 + 8 * c0 + 3)) + (-1)) (-20) 20) (va_cwS 3 hts gX6_work_X6_in rfl rfl rfl (by decide +kernel) ⟨Nat.le_of_ble_eq_true rfl, Nat.le_of_ble_eq_true rfl⟩) rfl hl (Nat.le_of_ble_eq_true rfl) ⟨Nat.zero_le _, Nat.zero_le _⟩ dX6_work_90 rfl (fun r H locs h48 hI => ?_)
        rcases h48 with ⟨b47, rfl⟩ | ⟨b47, rfl⟩
        · skip
          refine lv_if_eq (tgt := 100) hx hb dX6_work_93 (by decide) (fun c49 => absurd c49 (by decide)) (fun _ => ?_)
          refine lv_iload_n hx hb dX6_work_96 rfl (lv_at hl 0 rfl) ?_
          refine lv_goto (tgt := 110) hx hb dX6_work_97 (by decide) ?_
          refine m_ast hx hb hK hA hI 0 (by decide) (12 + 8 * c0 + 3) (by show _ < 140; omega) rfl dX6_work_110 (fun H locs hI => ?_)
          refine lv_aload_n hx hb dX6_work_111 rfl (lv_at hl 2 rfl) ?_
          refine m_get hx hb hts hin hown hK hI 0 (by decide) (hts (.fieldLink RX6 7 "WinderLaddersModel" "s" "[I") (by decide +kernel)) (v := .ref (q 1)) rfl dX6_work_112 ?_
          refine lv_iload_n hx hb dX6_work_115 rfl (lv_at hl 3 rfl) ?_
          refine lv_bipush (v := 6) hx hb dX6_work_116 (by decide) ?_
          refine m_calls (As := [.int (nI c0), .int 6]) (rest := [.ref (q 1)]) hx hb hml hown hts hI (k_X6_at l (c0) (6)) (va_cwS 2 hts gX6_work_X6_at rfl rfl rfl (by decide +kernel) ⟨Nat.le_of_ble_eq_true rfl, Nat.le_of_ble_eq_true rfl⟩) rfl hl (Nat.le_of_ble_eq_true rfl) ⟨Nat.zero_le _, Nat.zero_le _⟩ dX6_work_118 rfl (fun r H locs h50 hI => ?_)
          subst h50
          refine lv_iconst (v := 1) hx hb dX6_work_121 (by decide) ?_
          refine m_ast hx hb hK hA hI 0 (by decide) (12 + 8 * c0 + 6) (by show _ < 140; omega) rfl dX6_work_122 (fun H locs hI => ?_)
          refine lv_aload_n hx hb dX6_work_123 rfl (lv_at hl 2 rfl) ?_
          refine m_get hx hb hts hin hown hK hI 0 (by decide) (hts (.fieldLink RX6 7 "WinderLaddersModel" "s" "[I") (by decide +kernel)) (v := .ref (q 1)) rfl dX6_work_124 ?_
          refine lv_iload_n hx hb dX6_work_127 rfl (lv_at hl 3 rfl) ?_
          refine lv_iconst (v := 4) hx hb dX6_work_128 (by decide) ?_
          refine m_calls (As := [.int (nI c0), .int 4]) (rest := [.ref (q 1)]) hx hb hml hown hts hI (k_X6_at l (c0) (4)) (va_cwS 2 hts gX6_work_X6_at rfl rfl rfl (by decide +kernel) ⟨Nat.le_of_ble_eq_true rfl, Nat.le_of_ble_eq_true rfl⟩) rfl hl (Nat.le_of_ble_eq_true rfl) ⟨Nat.zero_le _, Nat.zero_le _⟩ dX6_work_129 rfl (fun r H locs h51 hI => ?_)
          subst h51
          refine lv_iconst (v := 0) hx hb dX6_work_132 (by decide) ?_
          refine m_ast hx hb hK hA hI 0 (by decide) (12 + 8 * c0 + 4) (by show _ < 140; omega) rfl dX6_work_133 (fun H locs hI => ?_)
          refine lv_aload_n hx hb dX6_work_134 rfl (lv_at hl 2 rfl) ?_
          refine m_get hx hb hts hin hown hK hI 0 (by decide) (hts (.fieldLink RX6 7 "WinderLaddersModel" "s" "[I") (by decide +kernel)) (v := .ref (q 1)) rfl dX6_work_135 ?_
          refine lv_iload_n hx hb dX6_work_138 rfl (lv_at hl 3 rfl) ?_
          refine lv_iconst (v := 5) hx hb dX6_work_139 (by decide) ?_
          refine m_calls (As := [.int (nI c0), .int 5]) (rest := [.ref (q 1)]) hx hb hml hown hts hI (k_X6_at l (c0) (5)) (va_cwS 2 hts gX6_work_X6_at rfl rfl rfl (by decide +kernel) ⟨Nat.le_of_ble_eq_true rfl, Nat.le_of_ble_eq_true rfl⟩) rfl hl (Nat.le_of_ble_eq_true rfl) ⟨Nat.zero_le _, Nat.zero_le _⟩ dX6_work_140 rfl (fun r H locs h52 hI => ?_)
          subst h52
          refine lv_iconst (v := 0) hx hb dX6_work_143 (by decide) ?_
          refine m_ast hx hb hK hA hI 0 (by decide) (12 + 8 * c0 + 5) (by show _ < 140; omega) rfl dX6_work_144 (fun H locs hI => ?_)
          refine lv_aload_n hx hb dX6_work_145 rfl (lv_at hl 2 rfl) ?_
          refine m_get hx hb hts hin hown hK hI 0 (by decide) (hts (.fieldLink RX6 7 "WinderLaddersModel" "s" "[I") (by decide +kernel)) (v := .ref (q 1)) rfl dX6_work_146 ?_
          refine lv_iload_n hx hb dX6_work_149 rfl (lv_at hl 3 rfl) ?_
          refine lv_bipush (v := 7) hx hb dX6_work_150 (by decide) ?_
          refine m_calls (As := [.int (nI c0), .int 7]) (rest := [.ref (q 1)]) hx hb hml hown hts hI (k_X6_at l (c0) (7)) (va_cwS 2 hts gX6_work_X6_at rfl rfl rfl (by decide +kernel) ⟨Nat.le_of_ble_eq_true rfl, Nat.le_of_ble_eq_true rfl⟩) rfl hl (Nat.le_of_ble_eq_true rfl) ⟨Nat.zero_le _, Nat.zero_le _⟩ dX6_work_152 rfl (fun r H locs h53 hI => ?_)
          subst h53
          refine lv_dup2_11 hx hb dX6_work_155 rfl rfl ?_
          refine m_ald hx hb hK hI 0 (by decide) (12 + 8 * c0 + 7) (by show _ < 140; omega) rfl (v := M 0 (12 + 8 * c0 + 7)) ((mset_nj _ (by omega) _ _).trans ((mset_nj _ (by omega) _ _).trans ((mset_nj _ (by omega) _ _).trans (mset_nj _ (by omega) _ _)))) dX6_work_156 ?_
          refine lv_iconst (v := 1) hx hb dX6_work_157 (by decide) ?_
          refine lv_iadd hx hb dX6_work_158 ?_
          refine m_ast hx hb hK hA hI 0 (by decide) (12 + 8 * c0 + 7) (by show _ < 140; omega) rfl dX6_work_159 (fun H locs hI => ?_)
          exact m_vret hx hb hr hI (by simp [workM, wkS, mset_0, ms0_0, ms0_ms0, upd_ne, upd_self, -Int32.not_lt, -Int32.not_le, c4, c11, c16, b47]) dX6_work_160 hlocks
        · skip
          refine lv_if_eq (tgt := 100) hx hb dX6_work_93 (by decide) (fun _ => ?_) (fun c54 => absurd (by decide) c54)
          refine lv_aload_n hx hb dX6_work_100 rfl (lv_at hl 2 rfl) ?_
          refine m_get hx hb hts hin hown hK hI 0 (by decide) (hts (.fieldLink RX6 7 "WinderLaddersModel" "s" "[I") (by decide +kernel)) (v := .ref (q 1)) rfl dX6_work_101 ?_
          refine lv_iload_n hx hb dX6_work_104 rfl (lv_at hl 3 rfl) ?_
          refine lv_iconst (v := 3) hx hb dX6_work_105 (by decide) ?_
          refine m_calls (As := [.int (nI c0), .int 3]) (rest := [.ref (q 1), .int (nI (12 + 8 * c0 + 3)), .ref (q 1)]) hx hb hml hown hts hI (k_X6_at l (c0) (3)) (va_cwS 2 hts gX6_work_X6_at rfl rfl rfl (by decide +kernel) ⟨Nat.le_of_ble_eq_true rfl, Nat.le_of_ble_eq_true rfl⟩) rfl hl (Nat.le_of_ble_eq_true rfl) ⟨Nat.zero_le _, Nat.zero_le _⟩ dX6_work_106 rfl (fun r H locs h55 hI => ?_)
          subst h55
          refine m_ald hx hb hK hI 0 (by decide) (12 + 8 * c0 + 3) (by show _ < 140; omega) rfl (v := M 0 (12 + 8 * c0 + 3)) rfl dX6_work_109 ?_
          refine m_ast hx hb hK hA hI 0 (by decide) (12 + 8 * c0 + 3) (by show _ < 140; omega) rfl dX6_work_110 (fun H locs hI => ?_)
          refine lv_aload_n hx hb dX6_work_111 rfl (lv_at hl 2 rfl) ?_
          refine m_get hx hb hts hin hown hK hI 0 (by decide) (hts (.fieldLink RX6 7 "WinderLaddersModel" "s" "[I") (by decide +kernel)) (v := .ref (q 1)) rfl dX6_work_112 ?_
          refine lv_iload_n hx hb dX6_work_115 rfl (lv_at hl 3 rfl) ?_
          refine lv_bipush (v := 6) hx hb dX6_work_116 (by decide) ?_
          refine m_calls (As := [.int (nI c0), .int 6]) (rest := [.ref (q 1)]) hx hb hml hown hts hI (k_X6_at l (c0) (6)) (va_cwS 2 hts gX6_work_X6_at rfl rfl rfl (by decide +kernel) ⟨Nat.le_of_ble_eq_true rfl, Nat.le_of_ble_eq_true rfl⟩) rfl hl (Nat.le_of_ble_eq_true rfl) ⟨Nat.zero_le _, Nat.zero_le _⟩ dX6_work_118 rfl (fun r H locs h56 hI => ?_)
          subst h56
          refine lv_iconst (v := 1) hx hb dX6_work_121 (by decide) ?_
          refine m_ast hx hb hK hA hI 0 (by decide) (12 + 8 * c0 + 6) (by show _ < 140; omega) rfl dX6_work_122 (fun H locs hI => ?_)
          refine lv_aload_n hx hb dX6_work_123 rfl (lv_at hl 2 rfl) ?_
          refine m_get hx hb hts hin hown hK hI 0 (by decide) (hts (.fieldLink RX6 7 "WinderLaddersModel" "s" "[I") (by decide +kernel)) (v := .ref (q 1)) rfl dX6_work_124 ?_
          refine lv_iload_n hx hb dX6_work_127 rfl (lv_at hl 3 rfl) ?_
          refine lv_iconst (v := 4) hx hb dX6_work_128 (by decide) ?_
          refine m_calls (As := [.int (nI c0), .int 4]) (rest := [.ref (q 1)]) hx hb hml hown hts hI (k_X6_at l (c0) (4)) (va_cwS 2 hts gX6_work_X6_at rfl rfl rfl (by decide +kernel) ⟨Nat.le_of_ble_eq_true rfl, Nat.le_of_ble_eq_true rfl⟩) rfl hl (Nat.le_of_ble_eq_true rfl) ⟨Nat.zero_le _, Nat.zero_le _⟩ dX6_work_129 rfl (fun r H locs h57 hI => ?_)
          subst h57
          refine lv_iconst (v := 0) hx hb dX6_work_132 (by decide) ?_
          refine m_ast hx hb hK hA hI 0 (by decide) (12 + 8 * c0 + 4) (by show _ < 140; omega) rfl dX6_work_133 (fun H locs hI => ?_)
          refine lv_aload_n hx hb dX6_work_134 rfl (lv_at hl 2 rfl) ?_
          refine m_get hx hb hts hin hown hK hI 0 (by decide) (hts (.fieldLink RX6 7 "WinderLaddersModel" "s" "[I") (by decide +kernel)) (v := .ref (q 1)) rfl dX6_work_135 ?_
          refine lv_iload_n hx hb dX6_work_138 rfl (lv_at hl 3 rfl) ?_
          refine lv_iconst (v := 5) hx hb dX6_work_139 (by decide) ?_
          refine m_calls (As := [.int (nI c0), .int 5]) (rest := [.ref (q 1)]) hx hb hml hown hts hI (k_X6_at l (c0) (5)) (va_cwS 2 hts gX6_work_X6_at rfl rfl rfl (by decide +kernel) ⟨Nat.le_of_ble_eq_true rfl, Nat.le_of_ble_eq_true rfl⟩) rfl hl (Nat.le_of_ble_eq_true rfl) ⟨Nat.zero_le _, Nat.zero_le _⟩ dX6_work_140 rfl (fun r H locs h58 hI => ?_)
          subst h58
          refine lv_iconst (v := 0) hx hb dX6_work_143 (by decide) ?_
          refine m_ast hx hb hK hA hI 0 (by decide) (12 + 8 * c0 + 5) (by show _ < 140; omega) rfl dX6_work_144 (fun H locs hI => ?_)
          refine lv_aload_n hx hb dX6_work_145 rfl (lv_at hl 2 rfl) ?_
          refine m_get hx hb hts hin hown hK hI 0 (by decide) (hts (.fieldLink RX6 7 "WinderLaddersModel" "s" "[I") (by decide +kernel)) (v := .ref (q 1)) rfl dX6_work_146 ?_
          refine lv_iload_n hx hb dX6_work_149 rfl (lv_at hl 3 rfl) ?_
          refine lv_bipush (v := 7) hx hb dX6_work_150 (by decide) ?_
          refine m_calls (As := [.int (nI c0), .int 7]) (rest := [.ref (q 1)]) hx hb hml hown hts hI (k_X6_at l (c0) (7)) (va_cwS 2 hts gX6_work_X6_at rfl rfl rfl (by decide +kernel) ⟨Nat.le_of_ble_eq_true rfl, Nat.le_of_ble_eq_true rfl⟩) rfl hl (Nat.le_of_ble_eq_true rfl) ⟨Nat.zero_le _, Nat.zero_le _⟩ dX6_work_152 rfl (fun r H locs h59 hI => ?_)
          subst h59
          refine lv_dup2_11 hx hb dX6_work_155 rfl rfl ?_
          refine m_ald hx hb hK hI 0 (by decide) (12 + 8 * c0 + 7) (by show _ < 140; omega) rfl (v := M 0 (12 + 8 * c0 + 7)) ((mset_nj _ (by omega) _ _).trans ((mset_nj _ (by omega) _ _).trans ((mset_nj _ (by omega) _ _).trans (mset_nj _ (by omega) _ _)))) dX6_work_156 ?_
          refine lv_iconst (v := 1) hx hb dX6_work_157 (by decide) ?_
          refine lv_iadd hx hb dX6_work_158 ?_
          refine m_ast hx hb hK hA hI 0 (by decide) (12 + 8 * c0 + 7) (by show _ < 140; omega) rfl dX6_work_159 (fun H locs hI => ?_)
          exact m_vret hx hb hr hI (by simp [workM, wkS, mset_0, ms0_0, ms0_ms0, upd_ne, upd_self, -Int32.not_lt, -Int32.not_le, c4, c11, c16, b47]) dX6_work_160 hlocks

set_option maxHeartbeats 4000000 in
set_option maxRecDepth 100000 in
theorem k_X6_minutes (l : Launch) (dd : va_G) (g : Nat → ClassId) (q : Nat → Nat) (A : Nat → Prop) (hA : mA A q) (M : MS) (wl : Nat) (hwl : wl ≤ 80) (hin9 : M 9 0 = nI wl) (hrow : ∀ k, k < wl → ∃ i, i < cn (M 0) ∧ M 8 k = nI i) (hW : Wk (M 0)) : Met l yX6_minutes wsX6_minutes ({ frames := 3, cells := 0, slots := 0, locals := 66 }) (mPre dd g q M [.ref (q 0)]) (mQi dd g q A (fun r M' => r = miV (M 0) (M 8) wl ∧ M' = M)) 0 0 A := by
  refine Met.ofW (cc := cX6_minutes) (maxL := 8) (ret := (some .int)) (by decide) rfl ?_
  intro p e s m args below meth c s₁ B hml hv
  obtain ⟨rfl, hP0, hK⟩ := hv
  have hx := B.exec
  have hb := B.bytes
  have hr := B.returns
  have hts := atoms_spec (ws := wsX6_minutes) B.pre
  have hown : s.vm.findClass RX6 = some m.cls := findClass_of_methodNamed B.named
  have hlocks := B.notSynchronized
  have hin : ∀ w ∈ wsX60, w ∈ wsX6_minutes := by decide +kernel
  have hI : mI dd g q A s.heap s.heap [] M := ⟨hP0, va_S.rf⟩
  have hl := lv_entry ([.ref (q 0)]) (n := 8) (Nat.le_of_ble_eq_true rfl)
  rw [lg_entry_eq]
  generalize (lg_sl ([.ref (q 0)]) ++ List.replicate (8 - (lg_sl ([.ref (q 0)])).length) Slot.unset).toArray = ls at hl ⊢
  have hl : lv_has ls 8 [(0, .ref (q 0))] := hl
  have hc16 := hW.2.1
  have hl4 := hW.2.2.2
  refine lv_iconst (v := 0) hx hb dX6_minutes_0 (by decide) ?_
  refine lv_istore_n (lv' := [(1, .int 0), (0, .ref (q 0))]) hx hb dX6_minutes_1 rfl hl (by decide) rfl (fun ls hl => ?_)
  refine lv_iconst (v := 0) hx hb dX6_minutes_2 (by decide) ?_
  refine lv_istore_n (lv' := [(2, .int 0), (1, .int 0), (0, .ref (q 0))]) hx hb dX6_minutes_3 rfl hl (by decide) rfl (fun ls hl => ?_)
  refine lv_bipush (v := (-6)) hx hb dX6_minutes_4 (by decide) ?_
  refine lv_istore_n (lv' := [(3, .int ((-6))), (2, .int 0), (1, .int 0), (0, .ref (q 0))]) hx hb dX6_minutes_6 rfl hl (by decide) rfl (fun ls hl => ?_)
  refine lv_iconst (v := 0) hx hb dX6_minutes_7 (by decide) ?_
  refine lv_istore (lv' := [(4, .int 0), (3, .int ((-6))), (2, .int 0), (1, .int 0), (0, .ref (q 0))]) hx hb dX6_minutes_8 hl (by decide) rfl (fun ls hl => ?_)
  have L10 : ∀ (fuel : Nat) (k : Nat) (x1 x2 x3 : Int32) (h1 : k ≤ wl) (h2 : wl < fuel + k) (hx3 : miS (M 0) (M 8) k = (x1, x2, x3)) (H : Heap) (locs : List Loc) (ls : Array Slot), mI dd g q A s.heap H locs M → lv_has ls 8 [(4, .int (nI k)), (3, .int x3), (2, .int x2), (1, .int x1), (0, .ref (q 0))] → wk p l e wsX6_minutes { frames := 3, cells := 0, slots := 0, locals := 66 } s m [.ref (q 0)] below meth c H locs (mQi dd g q A (fun r M' => r = miV (M 0) (M 8) wl ∧ M' = M)) (A) (F0 m 10 ls []) := by
    intro fuel
    induction fuel with
    | zero =>
      intro k x1 x2 x3 h1 h2 hx3 H locs ls hI hl
      exact absurd h2 (by omega)
    | succ fuel ih =>
      intro k x1 x2 x3 h1 h2 hx3 H locs ls hI hl
      refine lv_iload hx hb dX6_minutes_10 (lv_at hl 0 rfl) ?_
      refine lv_aload_n hx hb dX6_minutes_12 rfl (lv_at hl 4 rfl) ?_
      refine m_get hx hb hts hin hown hK hI 9 (by decide) (hts (.fieldLink RX6 58 "WinderLaddersModel" "inRow" "I") (by decide +kernel)) (v := .int (nI wl)) (congrArg (fun z => some (Value.int z)) hin9) dX6_minutes_13 ?_
      refine lv_icmp_ge (tgt := 128) hx hb dX6_minutes_16 (by decide) (fun c1 => ?_) (fun c1 => ?_)
      · skip
        have nc1 : wl ≤ k := (nI_leI (a := wl) (b := k) (by omega) (by omega)).mp c1
        refine lv_iload_n hx hb dX6_minutes_128 rfl (lv_at hl 3 rfl) ?_
        refine lv_aload_n hx hb dX6_minutes_129 rfl (lv_at hl 4 rfl) ?_
        refine lv_iload_n hx hb dX6_minutes_130 rfl (lv_at hl 2 rfl) ?_
        refine lv_iconst (v := 0) hx hb dX6_minutes_131 (by decide) ?_
        refine m_calli (As := [.int x2, .int 0]) (rest := [.int x1]) hx hb hml hown hts hK hI (k_X6_way l dd g q A hA M x2 0) (cwV 2 hts gX6_minutes_X6_way rfl rfl rfl (by decide +kernel) ⟨Nat.le_of_ble_eq_true rfl, Nat.le_of_ble_eq_true rfl⟩) rfl hl (Nat.le_of_ble_eq_true rfl) ⟨Nat.zero_le _, Nat.zero_le _⟩ dX6_minutes_132 rfl (fun r M1 H locs h2 hI => ?_)
        obtain ⟨hr9, hm9⟩ := h2
        rw [hm9] at hI
        subst hr9
        refine lv_iadd hx hb dX6_minutes_135 ?_
        exact m_iret (v := x1 + (jabs (x2 - 0) * M 0 2)) hx hb hr hI (⟨by rw [miV, show wl = k by omega, hx3], rfl⟩) dX6_minutes_136 hlocks
      · skip
        have nc1 : ¬ (wl ≤ k) := fun h => c1 ((nI_leI (a := wl) (b := k) (by omega) (by omega)).mpr h)
        obtain ⟨i0, hi0, hk0⟩ := hrow k (by omega)
        have ek0 : (M 8 k).toNatClampNeg = i0 := by rw [hk0]; exact nI_clamp (by omega)
        refine lv_aload_n hx hb dX6_minutes_19 rfl (lv_at hl 4 rfl) ?_
        refine m_get hx hb hts hin hown hK hI 8 (by decide) (hts (.fieldLink RX6 29 "WinderLaddersModel" "row" "[I") (by decide +kernel)) (v := .ref (q 7)) rfl dX6_minutes_20 ?_
        refine lv_iload hx hb dX6_minutes_23 (lv_at hl 0 rfl) ?_
        refine m_ald hx hb hK hI 8 (by decide) (k) (by show _ < 80; omega) rfl (v := nI i0) hk0 dX6_minutes_25 ?_
        refine lv_istore (lv' := [(5, .int (nI i0)), (4, .int (nI k)), (3, .int x3), (2, .int x2), (1, .int x1), (0, .ref (q 0))]) hx hb dX6_minutes_26 hl (by decide) rfl (fun ls hl => ?_)
        refine lv_aload_n hx hb dX6_minutes_28 rfl (lv_at hl 5 rfl) ?_
        refine lv_iload hx hb dX6_minutes_29 (lv_at hl 0 rfl) ?_
        refine m_calli (As := [.int (nI i0)]) (rest := []) hx hb hml hown hts hK hI (k_X6_ladderOf l dd g q A hA M i0 (by omega) hW) (cwV 1 hts gX6_minutes_X6_ladderOf rfl rfl rfl (by decide +kernel) ⟨Nat.le_of_ble_eq_true rfl, Nat.le_of_ble_eq_true rfl⟩) rfl hl (Nat.le_of_ble_eq_true rfl) ⟨Nat.zero_le _, Nat.zero_le _⟩ dX6_minutes_31 rfl (fun r M1 H locs h3 hI => ?_)
        obtain ⟨hr9, hm9⟩ := h3
        rw [hm9] at hI
        subst hr9
        refine lv_istore (lv' := [(6, .int (o2i (ladF (M 0) i0))), (5, .int (nI i0)), (4, .int (nI k)), (3, .int x3), (2, .int x2), (1, .int x1), (0, .ref (q 0))]) hx hb dX6_minutes_34 hl (by decide) rfl (fun ls hl => ?_)
        refine lv_aload_n hx hb dX6_minutes_36 rfl (lv_at hl 6 rfl) ?_
        refine m_get hx hb hts hin hown hK hI 0 (by decide) (hts (.fieldLink RX6 7 "WinderLaddersModel" "s" "[I") (by decide +kernel)) (v := .ref (q 1)) rfl dX6_minutes_37 ?_
        refine lv_iload hx hb dX6_minutes_40 (lv_at hl 1 rfl) ?_
        refine lv_iconst (v := 0) hx hb dX6_minutes_42 (by decide) ?_
        refine m_calls (As := [.int (nI i0), .int 0]) (rest := [.ref (q 1)]) hx hb hml hown hts hI (k_X6_at l (i0) (0)) (va_cwS 2 hts gX6_minutes_X6_at rfl rfl rfl (by decide +kernel) ⟨Nat.le_of_ble_eq_true rfl, Nat.le_of_ble_eq_true rfl⟩) rfl hl (Nat.le_of_ble_eq_true rfl) ⟨Nat.zero_le _, Nat.zero_le _⟩ dX6_minutes_43 rfl (fun r H locs h4 hI => ?_)
        subst h4
        refine m_ald hx hb hK hI 0 (by decide) (12 + 8 * i0 + 0) (by show _ < 140; omega) rfl (v := M 0 (12 + 8 * i0 + 0)) rfl dX6_minutes_46 ?_
        refine lv_istore (lv' := [(7, .int (M 0 (12 + 8 * i0 + 0))), (6, .int (o2i (ladF (M 0) i0))), (5, .int (nI i0)), (4, .int (nI k)), (3, .int x3), (2, .int x2), (1, .int x1), (0, .ref (q 0))]) hx hb dX6_minutes_47 hl (by decide) rfl (fun ls hl => ?_)
        refine lv_iload_n hx hb dX6_minutes_49 rfl (lv_at hl 6 rfl) ?_
        refine lv_aload_n hx hb dX6_minutes_50 rfl (lv_at hl 7 rfl) ?_
        refine lv_iload_n hx hb dX6_minutes_51 rfl (lv_at hl 5 rfl) ?_
        refine lv_iload hx hb dX6_minutes_52 (lv_at hl 0 rfl) ?_
        refine m_calli (As := [.int x2, .int (M 0 (12 + 8 * i0 + 0))]) (rest := [.int x1]) hx hb hml hown hts hK hI (k_X6_way l dd g q A hA M x2 (M 0 (12 + 8 * i0 + 0))) (cwV 2 hts gX6_minutes_X6_way rfl rfl rfl (by decide +kernel) ⟨Nat.le_of_ble_eq_true rfl, Nat.le_of_ble_eq_true rfl⟩) rfl hl (Nat.le_of_ble_eq_true rfl) ⟨Nat.zero_le _, Nat.zero_le _⟩ dX6_minutes_54 rfl (fun r M1 H locs h5 hI => ?_)
        obtain ⟨hr9, hm9⟩ := h5
        rw [hm9] at hI
        subst hr9
        refine lv_iadd hx hb dX6_minutes_57 ?_
        refine lv_istore_n (lv' := [(1, .int (x1 + (jabs (x2 - (M 0 (12 + 8 * i0 + 0))) * M 0 2))), (7, .int (M 0 (12 + 8 * i0 + 0))), (6, .int (o2i (ladF (M 0) i0))), (5, .int (nI i0)), (4, .int (nI k)), (3, .int x3), (2, .int x2), (0, .ref (q 0))]) hx hb dX6_minutes_58 rfl hl (by decide) rfl (fun ls hl => ?_)
        refine lv_iload hx hb dX6_minutes_59 (lv_at hl 1 rfl) ?_
        refine lv_istore_n (lv' := [(2, .int (M 0 (12 + 8 * i0 + 0))), (1, .int (x1 + (jabs (x2 - (M 0 (12 + 8 * i0 + 0))) * M 0 2))), (7, .int (M 0 (12 + 8 * i0 + 0))), (6, .int (o2i (ladF (M 0) i0))), (5, .int (nI i0)), (4, .int (nI k)), (3, .int x3), (0, .ref (q 0))]) hx hb dX6_minutes_61 rfl hl (by decide) rfl (fun ls hl => ?_)
        refine lv_aload_n hx hb dX6_minutes_62 rfl (lv_at hl 7 rfl) ?_
        refine lv_iload hx hb dX6_minutes_63 (lv_at hl 4 rfl) ?_
        refine m_calli (As := [.int (nI i0)]) (rest := []) hx hb hml hown hts hK hI (k_X6_canWind l dd g q A hA M i0 (by omega) hW) (cwV 1 hts gX6_minutes_X6_canWind rfl rfl rfl (by decide +kernel) ⟨Nat.le_of_ble_eq_true rfl, Nat.le_of_ble_eq_true rfl⟩) rfl hl (Nat.le_of_ble_eq_true rfl) ⟨Nat.zero_le _, Nat.zero_le _⟩ dX6_minutes_65 rfl (fun r M1 H locs h7 hI => ?_)
        obtain ⟨h7, hm9⟩ := h7
        rw [hm9] at hI
        rcases h7 with ⟨b6, rfl⟩ | ⟨b6, rfl⟩
        · skip
          have b6 : canW (M 0) i0 = true := b6
          refine lv_if_eq (tgt := 122) hx hb dX6_minutes_68 (by decide) (fun c8 => absurd c8 (by decide)) (fun _ => ?_)
          refine lv_iload_n hx hb dX6_minutes_71 rfl (lv_at hl 1 rfl) ?_
          refine lv_aload_n hx hb dX6_minutes_72 rfl (lv_at hl 7 rfl) ?_
          refine m_get hx hb hts hin hown hK hI 0 (by decide) (hts (.fieldLink RX6 7 "WinderLaddersModel" "s" "[I") (by decide +kernel)) (v := .ref (q 1)) rfl dX6_minutes_73 ?_
          refine lv_iconst (v := 3) hx hb dX6_minutes_76 (by decide) ?_
          refine m_ald hx hb hK hI 0 (by decide) (3) (by show _ < 140; omega) rfl (v := M 0 3) rfl dX6_minutes_77 ?_
          refine lv_iadd hx hb dX6_minutes_78 ?_
          refine lv_istore_n (lv' := [(1, .int ((x1 + (jabs (x2 - (M 0 (12 + 8 * i0 + 0))) * M 0 2)) + (M 0 3))), (2, .int (M 0 (12 + 8 * i0 + 0))), (7, .int (M 0 (12 + 8 * i0 + 0))), (6, .int (o2i (ladF (M 0) i0))), (5, .int (nI i0)), (4, .int (nI k)), (3, .int x3), (0, .ref (q 0))]) hx hb dX6_minutes_79 rfl hl (by decide) rfl (fun ls hl => ?_)
          refine lv_iload_n hx hb dX6_minutes_80 rfl (lv_at hl 0 rfl) ?_
          refine lv_iload hx hb dX6_minutes_81 (lv_at hl 3 rfl) ?_
          refine lv_bipush (v := (-6)) hx hb dX6_minutes_83 (by decide) ?_
          refine lv_icmp_eq (tgt := 94) hx hb dX6_minutes_85 (by decide) (fun c9 => ?_) (fun c9 => ?_)
          · skip
            refine lv_iconst (v := 0) hx hb dX6_minutes_94 (by decide) ?_
            refine lv_goto (tgt := 106) hx hb dX6_minutes_95 (by decide) ?_
            refine lv_iadd hx hb dX6_minutes_106 ?_
            refine lv_istore_n (lv' := [(1, .int (((x1 + (jabs (x2 - (M 0 (12 + 8 * i0 + 0))) * M 0 2)) + (M 0 3)) + 0)), (2, .int (M 0 (12 + 8 * i0 + 0))), (7, .int (M 0 (12 + 8 * i0 + 0))), (6, .int (o2i (ladF (M 0) i0))), (5, .int (nI i0)), (4, .int (nI k)), (3, .int x3), (0, .ref (q 0))]) hx hb dX6_minutes_107 rfl hl (by decide) rfl (fun ls hl => ?_)
            refine lv_iload hx hb dX6_minutes_108 (lv_at hl 3 rfl) ?_
            refine lv_bipush (v := (-6)) hx hb dX6_minutes_110 (by decide) ?_
            refine lv_icmp_ne (tgt := 119) hx hb dX6_minutes_112 (by decide) (fun c10 => ?_) (fun c10 => ?_)
            · skip
              refine lv_iload hx hb dX6_minutes_119 (lv_at hl 3 rfl) ?_
              refine lv_istore_n (lv' := [(3, .int (o2i (ladF (M 0) i0))), (1, .int (((x1 + (jabs (x2 - (M 0 (12 + 8 * i0 + 0))) * M 0 2)) + (M 0 3)) + 0)), (2, .int (M 0 (12 + 8 * i0 + 0))), (7, .int (M 0 (12 + 8 * i0 + 0))), (6, .int (o2i (ladF (M 0) i0))), (5, .int (nI i0)), (4, .int (nI k)), (0, .ref (q 0))]) hx hb dX6_minutes_121 rfl hl (by decide) rfl (fun ls hl => ?_)
              refine lv_iinc (v := nI (k + 1)) (lv' := [(4, .int (nI (k + 1))), (3, .int (o2i (ladF (M 0) i0))), (1, .int (((x1 + (jabs (x2 - (M 0 (12 + 8 * i0 + 0))) * M 0 2)) + (M 0 3)) + 0)), (2, .int (M 0 (12 + 8 * i0 + 0))), (7, .int (M 0 (12 + 8 * i0 + 0))), (6, .int (o2i (ladF (M 0) i0))), (5, .int (nI i0)), (0, .ref (q 0))]) hx hb dX6_minutes_122 hl (k := 6) rfl (by rw [show Int32.ofInt 1 = nI 1 from rfl, nI_add]) (by decide) rfl (fun ls hl => ?_)
              refine lv_goto (tgt := 10) hx hb dX6_minutes_125 (by decide) ?_
              exact ih (k + 1) (((x1 + (jabs (x2 - (M 0 (12 + 8 * i0 + 0))) * M 0 2)) + (M 0 3)) + 0) (M 0 (12 + 8 * i0 + 0)) (o2i (ladF (M 0) i0)) (by omega) (by omega) (by first | (simp [miS, hx3, ek0, -Int32.not_le, -Int32.not_lt, c1, nc1, b6, c9, c10]; done) | contradiction) _ _ _ hI (lv_sub hl [0, 1, 3, 2, 7] rfl)
            · skip
              refine lv_iload_n hx hb dX6_minutes_115 rfl (lv_at hl 6 rfl) ?_
              refine lv_goto (tgt := 121) hx hb dX6_minutes_116 (by decide) ?_
              refine lv_istore_n (lv' := [(3, .int x3), (1, .int (((x1 + (jabs (x2 - (M 0 (12 + 8 * i0 + 0))) * M 0 2)) + (M 0 3)) + 0)), (2, .int (M 0 (12 + 8 * i0 + 0))), (7, .int (M 0 (12 + 8 * i0 + 0))), (6, .int (o2i (ladF (M 0) i0))), (5, .int (nI i0)), (4, .int (nI k)), (0, .ref (q 0))]) hx hb dX6_minutes_121 rfl hl (by decide) rfl (fun ls hl => ?_)
              refine lv_iinc (v := nI (k + 1)) (lv' := [(4, .int (nI (k + 1))), (3, .int x3), (1, .int (((x1 + (jabs (x2 - (M 0 (12 + 8 * i0 + 0))) * M 0 2)) + (M 0 3)) + 0)), (2, .int (M 0 (12 + 8 * i0 + 0))), (7, .int (M 0 (12 + 8 * i0 + 0))), (6, .int (o2i (ladF (M 0) i0))), (5, .int (nI i0)), (0, .ref (q 0))]) hx hb dX6_minutes_122 hl (k := 6) rfl (by rw [show Int32.ofInt 1 = nI 1 from rfl, nI_add]) (by decide) rfl (fun ls hl => ?_)
              refine lv_goto (tgt := 10) hx hb dX6_minutes_125 (by decide) ?_
              exact ih (k + 1) (((x1 + (jabs (x2 - (M 0 (12 + 8 * i0 + 0))) * M 0 2)) + (M 0 3)) + 0) (M 0 (12 + 8 * i0 + 0)) (x3) (by omega) (by omega) (by first | (simp [miS, hx3, ek0, -Int32.not_le, -Int32.not_lt, c1, nc1, b6, c9, c10]; done) | contradiction) _ _ _ hI (lv_sub hl [0, 1, 3, 2, 7] rfl)
          · skip
            refine lv_iload hx hb dX6_minutes_88 (lv_at hl 3 rfl) ?_
            refine lv_iload_n hx hb dX6_minutes_90 rfl (lv_at hl 6 rfl) ?_
            refine lv_icmp_ne (tgt := 98) hx hb dX6_minutes_91 (by decide) (fun c11 => ?_) (fun c11 => ?_)
            · skip
              refine lv_iconst (v := 2) hx hb dX6_minutes_98 (by decide) ?_
              refine lv_aload_n hx hb dX6_minutes_99 rfl (lv_at hl 7 rfl) ?_
              refine lv_iload_n hx hb dX6_minutes_100 rfl (lv_at hl 1 rfl) ?_
              refine lv_iconst (v := 0) hx hb dX6_minutes_101 (by decide) ?_
              refine m_calli (As := [.int (M 0 (12 + 8 * i0 + 0)), .int 0]) (rest := [.int 2, .int ((x1 + (jabs (x2 - (M 0 (12 + 8 * i0 + 0))) * M 0 2)) + (M 0 3))]) hx hb hml hown hts hK hI (k_X6_way l dd g q A hA M (M 0 (12 + 8 * i0 + 0)) 0) (cwV 2 hts gX6_minutes_X6_way rfl rfl rfl (by decide +kernel) ⟨Nat.le_of_ble_eq_true rfl, Nat.le_of_ble_eq_true rfl⟩) rfl hl (Nat.le_of_ble_eq_true rfl) ⟨Nat.zero_le _, Nat.zero_le _⟩ dX6_minutes_102 rfl (fun r M1 H locs h12 hI => ?_)
              obtain ⟨hr9, hm9⟩ := h12
              rw [hm9] at hI
              subst hr9
              refine lv_imul hx hb dX6_minutes_105 ?_
              refine lv_iadd hx hb dX6_minutes_106 ?_
              refine lv_istore_n (lv' := [(1, .int (((x1 + (jabs (x2 - (M 0 (12 + 8 * i0 + 0))) * M 0 2)) + (M 0 3)) + (2 * (jabs ((M 0 (12 + 8 * i0 + 0)) - 0) * M 0 2)))), (2, .int (M 0 (12 + 8 * i0 + 0))), (7, .int (M 0 (12 + 8 * i0 + 0))), (6, .int (o2i (ladF (M 0) i0))), (5, .int (nI i0)), (4, .int (nI k)), (3, .int x3), (0, .ref (q 0))]) hx hb dX6_minutes_107 rfl hl (by decide) rfl (fun ls hl => ?_)
              refine lv_iload hx hb dX6_minutes_108 (lv_at hl 3 rfl) ?_
              refine lv_bipush (v := (-6)) hx hb dX6_minutes_110 (by decide) ?_
              refine lv_icmp_ne (tgt := 119) hx hb dX6_minutes_112 (by decide) (fun c13 => ?_) (fun c13 => ?_)
              · skip
                refine lv_iload hx hb dX6_minutes_119 (lv_at hl 3 rfl) ?_
                refine lv_istore_n (lv' := [(3, .int (o2i (ladF (M 0) i0))), (1, .int (((x1 + (jabs (x2 - (M 0 (12 + 8 * i0 + 0))) * M 0 2)) + (M 0 3)) + (2 * (jabs ((M 0 (12 + 8 * i0 + 0)) - 0) * M 0 2)))), (2, .int (M 0 (12 + 8 * i0 + 0))), (7, .int (M 0 (12 + 8 * i0 + 0))), (6, .int (o2i (ladF (M 0) i0))), (5, .int (nI i0)), (4, .int (nI k)), (0, .ref (q 0))]) hx hb dX6_minutes_121 rfl hl (by decide) rfl (fun ls hl => ?_)
                refine lv_iinc (v := nI (k + 1)) (lv' := [(4, .int (nI (k + 1))), (3, .int (o2i (ladF (M 0) i0))), (1, .int (((x1 + (jabs (x2 - (M 0 (12 + 8 * i0 + 0))) * M 0 2)) + (M 0 3)) + (2 * (jabs ((M 0 (12 + 8 * i0 + 0)) - 0) * M 0 2)))), (2, .int (M 0 (12 + 8 * i0 + 0))), (7, .int (M 0 (12 + 8 * i0 + 0))), (6, .int (o2i (ladF (M 0) i0))), (5, .int (nI i0)), (0, .ref (q 0))]) hx hb dX6_minutes_122 hl (k := 6) rfl (by rw [show Int32.ofInt 1 = nI 1 from rfl, nI_add]) (by decide) rfl (fun ls hl => ?_)
                refine lv_goto (tgt := 10) hx hb dX6_minutes_125 (by decide) ?_
                exact ih (k + 1) (((x1 + (jabs (x2 - (M 0 (12 + 8 * i0 + 0))) * M 0 2)) + (M 0 3)) + (2 * (jabs ((M 0 (12 + 8 * i0 + 0)) - 0) * M 0 2))) (M 0 (12 + 8 * i0 + 0)) (o2i (ladF (M 0) i0)) (by omega) (by omega) (by first | (simp [miS, hx3, ek0, -Int32.not_le, -Int32.not_lt, c1, nc1, b6, c9, c11, c13]; done) | contradiction) _ _ _ hI (lv_sub hl [0, 1, 3, 2, 7] rfl)
              · skip
                refine lv_iload_n hx hb dX6_minutes_115 rfl (lv_at hl 6 rfl) ?_
                refine lv_goto (tgt := 121) hx hb dX6_minutes_116 (by decide) ?_
                refine lv_istore_n (lv' := [(3, .int x3), (1, .int (((x1 + (jabs (x2 - (M 0 (12 + 8 * i0 + 0))) * M 0 2)) + (M 0 3)) + (2 * (jabs ((M 0 (12 + 8 * i0 + 0)) - 0) * M 0 2)))), (2, .int (M 0 (12 + 8 * i0 + 0))), (7, .int (M 0 (12 + 8 * i0 + 0))), (6, .int (o2i (ladF (M 0) i0))), (5, .int (nI i0)), (4, .int (nI k)), (0, .ref (q 0))]) hx hb dX6_minutes_121 rfl hl (by decide) rfl (fun ls hl => ?_)
                refine lv_iinc (v := nI (k + 1)) (lv' := [(4, .int (nI (k + 1))), (3, .int x3), (1, .int (((x1 + (jabs (x2 - (M 0 (12 + 8 * i0 + 0))) * M 0 2)) + (M 0 3)) + (2 * (jabs ((M 0 (12 + 8 * i0 + 0)) - 0) * M 0 2)))), (2, .int (M 0 (12 + 8 * i0 + 0))), (7, .int (M 0 (12 + 8 * i0 + 0))), (6, .int (o2i (ladF (M 0) i0))), (5, .int (nI i0)), (0, .ref (q 0))]) hx hb dX6_minutes_122 hl (k := 6) rfl (by rw [show Int32.ofInt 1 = nI 1 from rfl, nI_add]) (by decide) rfl (fun ls hl => ?_)
                refine lv_goto (tgt := 10) hx hb dX6_minutes_125 (by decide) ?_
                exact ih (k + 1) (((x1 + (jabs (x2 - (M 0 (12 + 8 * i0 + 0))) * M 0 2)) + (M 0 3)) + (2 * (jabs ((M 0 (12 + 8 * i0 + 0)) - 0) * M 0 2))) (M 0 (12 + 8 * i0 + 0)) (x3) (by omega) (by omega) (by first | (simp [miS, hx3, ek0, -Int32.not_le, -Int32.not_lt, c1, nc1, b6, c9, c11, c13]; done) | contradiction) _ _ _ hI (lv_sub hl [0, 1, 3, 2, 7] rfl)
            · skip
              refine lv_iconst (v := 0) hx hb dX6_minutes_94 (by decide) ?_
              refine lv_goto (tgt := 106) hx hb dX6_minutes_95 (by decide) ?_
              refine lv_iadd hx hb dX6_minutes_106 ?_
              refine lv_istore_n (lv' := [(1, .int (((x1 + (jabs (x2 - (M 0 (12 + 8 * i0 + 0))) * M 0 2)) + (M 0 3)) + 0)), (2, .int (M 0 (12 + 8 * i0 + 0))), (7, .int (M 0 (12 + 8 * i0 + 0))), (6, .int (o2i (ladF (M 0) i0))), (5, .int (nI i0)), (4, .int (nI k)), (3, .int x3), (0, .ref (q 0))]) hx hb dX6_minutes_107 rfl hl (by decide) rfl (fun ls hl => ?_)
              refine lv_iload hx hb dX6_minutes_108 (lv_at hl 3 rfl) ?_
              refine lv_bipush (v := (-6)) hx hb dX6_minutes_110 (by decide) ?_
              refine lv_icmp_ne (tgt := 119) hx hb dX6_minutes_112 (by decide) (fun c14 => ?_) (fun c14 => ?_)
              · skip
                refine lv_iload hx hb dX6_minutes_119 (lv_at hl 3 rfl) ?_
                refine lv_istore_n (lv' := [(3, .int (o2i (ladF (M 0) i0))), (1, .int (((x1 + (jabs (x2 - (M 0 (12 + 8 * i0 + 0))) * M 0 2)) + (M 0 3)) + 0)), (2, .int (M 0 (12 + 8 * i0 + 0))), (7, .int (M 0 (12 + 8 * i0 + 0))), (6, .int (o2i (ladF (M 0) i0))), (5, .int (nI i0)), (4, .int (nI k)), (0, .ref (q 0))]) hx hb dX6_minutes_121 rfl hl (by decide) rfl (fun ls hl => ?_)
                refine lv_iinc (v := nI (k + 1)) (lv' := [(4, .int (nI (k + 1))), (3, .int (o2i (ladF (M 0) i0))), (1, .int (((x1 + (jabs (x2 - (M 0 (12 + 8 * i0 + 0))) * M 0 2)) + (M 0 3)) + 0)), (2, .int (M 0 (12 + 8 * i0 + 0))), (7, .int (M 0 (12 + 8 * i0 + 0))), (6, .int (o2i (ladF (M 0) i0))), (5, .int (nI i0)), (0, .ref (q 0))]) hx hb dX6_minutes_122 hl (k := 6) rfl (by rw [show Int32.ofInt 1 = nI 1 from rfl, nI_add]) (by decide) rfl (fun ls hl => ?_)
                refine lv_goto (tgt := 10) hx hb dX6_minutes_125 (by decide) ?_
                exact ih (k + 1) (((x1 + (jabs (x2 - (M 0 (12 + 8 * i0 + 0))) * M 0 2)) + (M 0 3)) + 0) (M 0 (12 + 8 * i0 + 0)) (o2i (ladF (M 0) i0)) (by omega) (by omega) (by first | (simp [miS, hx3, ek0, -Int32.not_le, -Int32.not_lt, c1, nc1, b6, c9, c11, c14]; done) | contradiction) _ _ _ hI (lv_sub hl [0, 1, 3, 2, 7] rfl)
              · skip
                refine lv_iload_n hx hb dX6_minutes_115 rfl (lv_at hl 6 rfl) ?_
                refine lv_goto (tgt := 121) hx hb dX6_minutes_116 (by decide) ?_
                refine lv_istore_n (lv' := [(3, .int x3), (1, .int (((x1 + (jabs (x2 - (M 0 (12 + 8 * i0 + 0))) * M 0 2)) + (M 0 3)) + 0)), (2, .int (M 0 (12 + 8 * i0 + 0))), (7, .int (M 0 (12 + 8 * i0 + 0))), (6, .int (o2i (ladF (M 0) i0))), (5, .int (nI i0)), (4, .int (nI k)), (0, .ref (q 0))]) hx hb dX6_minutes_121 rfl hl (by decide) rfl (fun ls hl => ?_)
                refine lv_iinc (v := nI (k + 1)) (lv' := [(4, .int (nI (k + 1))), (3, .int x3), (1, .int (((x1 + (jabs (x2 - (M 0 (12 + 8 * i0 + 0))) * M 0 2)) + (M 0 3)) + 0)), (2, .int (M 0 (12 + 8 * i0 + 0))), (7, .int (M 0 (12 + 8 * i0 + 0))), (6, .int (o2i (ladF (M 0) i0))), (5, .int (nI i0)), (0, .ref (q 0))]) hx hb dX6_minutes_122 hl (k := 6) rfl (by rw [show Int32.ofInt 1 = nI 1 from rfl, nI_add]) (by decide) rfl (fun ls hl => ?_)
                refine lv_goto (tgt := 10) hx hb dX6_minutes_125 (by decide) ?_
                exact ih (k + 1) (((x1 + (jabs (x2 - (M 0 (12 + 8 * i0 + 0))) * M 0 2)) + (M 0 3)) + 0) (M 0 (12 + 8 * i0 + 0)) (x3) (by omega) (by omega) (by first | (simp [miS, hx3, ek0, -Int32.not_le, -Int32.not_lt, c1, nc1, b6, c9, c11, c14]; done) | contradiction) _ _ _ hI (lv_sub hl [0, 1, 3, 2, 7] rfl)
        · skip
          have b6 : canW (M 0) i0 = false := b6
          refine lv_if_eq (tgt := 122) hx hb dX6_minutes_68 (by decide) (fun _ => ?_) (fun c15 => absurd (by decide) c15)
          refine lv_iinc (v := nI (k + 1)) (lv' := [(4, .int (nI (k + 1))), (2, .int (M 0 (12 + 8 * i0 + 0))), (1, .int (x1 + (jabs (x2 - (M 0 (12 + 8 * i0 + 0))) * M 0 2))), (7, .int (M 0 (12 + 8 * i0 + 0))), (6, .int (o2i (ladF (M 0) i0))), (5, .int (nI i0)), (3, .int x3), (0, .ref (q 0))]) hx hb dX6_minutes_122 hl (k := 5) rfl (by rw [show Int32.ofInt 1 = nI 1 from rfl, nI_add]) (by decide) rfl (fun ls hl => ?_)
          refine lv_goto (tgt := 10) hx hb dX6_minutes_125 (by decide) ?_
          exact ih (k + 1) (x1 + (jabs (x2 - (M 0 (12 + 8 * i0 + 0))) * M 0 2)) (M 0 (12 + 8 * i0 + 0)) (x3) (by omega) (by omega) (by first | (simp [miS, hx3, ek0, -Int32.not_le, -Int32.not_lt, c1, nc1, b6]; done) | contradiction) _ _ _ hI (lv_sub hl [0, 6, 1, 2, 7] rfl)
  exact L10 81 0 0 0 (-6) (by omega) (by omega) rfl _ _ _ hI (lv_sub hl [0, 1, 2, 3, 4] rfl)

set_option maxHeartbeats 4000000 in
set_option maxRecDepth 100000 in
theorem k_X6_goes (l : Launch) (dd : va_G) (g : Nat → ClassId) (q : Nat → Nat) (A : Nat → Prop) (hA : mA A q) (M : MS) (wl : Nat) (hwl : wl ≤ 80) (hin9 : M 9 0 = nI wl) (hrow : ∀ k, k < wl → ∃ i, i < cn (M 0) ∧ M 8 k = nI i) (hW : Wk (M 0)) : Met l yX6_goes wsX6_goes ({ frames := 4, cells := 0, slots := 0, locals := 93 }) (mPre dd g q M [.ref (q 0)]) (mQi dd g q A (fun r M' => r = miV (M 0) (M 8) wl ∧ M' = ms0 M (upd (goF (M 0) (M 8) wl) 7 (M 0 7 + miV (M 0) (M 8) wl)))) 0 0 A := by
  refine Met.ofW (cc := cX6_goes) (maxL := 3) (ret := (some .int)) (by decide) rfl ?_
  intro p e s m args below meth c s₁ B hml hv
  obtain ⟨rfl, hP0, hK⟩ := hv
  have hx := B.exec
  have hb := B.bytes
  have hr := B.returns
  have hts := atoms_spec (ws := wsX6_goes) B.pre
  have hown : s.vm.findClass RX6 = some m.cls := findClass_of_methodNamed B.named
  have hlocks := B.notSynchronized
  have hin : ∀ w ∈ wsX60, w ∈ wsX6_goes := by decide +kernel
  have hI : mI dd g q A s.heap s.heap [] M := ⟨hP0, va_S.rf⟩
  have hl := lv_entry ([.ref (q 0)]) (n := 3) (Nat.le_of_ble_eq_true rfl)
  rw [lg_entry_eq]
  generalize (lg_sl ([.ref (q 0)]) ++ List.replicate (3 - (lg_sl ([.ref (q 0)])).length) Slot.unset).toArray = ls at hl ⊢
  have hl : lv_has ls 3 [(0, .ref (q 0))] := hl
  have hc16 := hW.2.1
  have hl4 := hW.2.2.2
  refine lv_aload_n hx hb dX6_goes_0 rfl (lv_at hl 0 rfl) ?_
  refine m_calli (As := []) (rest := []) hx hb hml hown hts hK hI (k_X6_minutes l dd g q A hA M wl hwl hin9 hrow hW) (cwV 0 hts gX6_goes_X6_minutes rfl rfl rfl (by decide +kernel) ⟨Nat.le_of_ble_eq_true rfl, Nat.le_of_ble_eq_true rfl⟩) rfl hl (Nat.le_of_ble_eq_true rfl) ⟨Nat.zero_le _, Nat.zero_le _⟩ dX6_goes_1 rfl (fun r M1 H locs h1 hI => ?_)
  obtain ⟨hr9, hm9⟩ := h1
  rw [hm9] at hI
  subst hr9
  refine lv_istore_n (lv' := [(1, .int (miV (M 0) (M 8) wl)), (0, .ref (q 0))]) hx hb dX6_goes_4 rfl hl (by decide) rfl (fun ls hl => ?_)
  refine lv_iconst (v := 0) hx hb dX6_goes_5 (by decide) ?_
  refine lv_istore_n (lv' := [(2, .int 0), (1, .int (miV (M 0) (M 8) wl)), (0, .ref (q 0))]) hx hb dX6_goes_6 rfl hl (by decide) rfl (fun ls hl => ?_)
  have L7 : ∀ (fuel : Nat) (k : Nat) (h1 : k ≤ wl) (h2 : wl < fuel + k) (H : Heap) (locs : List Loc) (ls : Array Slot), mI dd g q A s.heap H locs (ms0 M (goF (M 0) (M 8) k)) → lv_has ls 3 [(2, .int (nI k)), (1, .int (miV (M 0) (M 8) wl)), (0, .ref (q 0))] → wk p l e wsX6_goes { frames := 4, cells := 0, slots := 0, locals := 93 } s m [.ref (q 0)] below meth c H locs (mQi dd g q A (fun r M' => r = miV (M 0) (M 8) wl ∧ M' = ms0 M (upd (goF (M 0) (M 8) wl) 7 (M 0 7 + miV (M 0) (M 8) wl)))) (A) (F0 m 7 ls []) := by
    intro fuel
    induction fuel with
    | zero =>
      intro k h1 h2 H locs ls hI hl
      exact absurd h2 (by omega)
    | succ fuel ih =>
      intro k h1 h2 H locs ls hI hl
      have hW3 : Wk (ms0 M (goF (M 0) (M 8) k) 0) := (hW.congr (goF_lo _ _ _ (by decide)) (goF_lo _ _ _ (by decide))).1
      refine lv_iload_n hx hb dX6_goes_7 rfl (lv_at hl 0 rfl) ?_
      refine lv_aload_n hx hb dX6_goes_8 rfl (lv_at hl 2 rfl) ?_
      refine m_get hx hb hts hin hown hK hI 9 (by decide) (hts (.fieldLink RX6 58 "WinderLaddersModel" "inRow" "I") (by decide +kernel)) (v := .int (nI wl)) (congrArg (fun z => some (Value.int z)) ((by rw [ms0_k _ _ (by decide)]; exact hin9))) dX6_goes_9 ?_
      refine lv_icmp_ge (tgt := 44) hx hb dX6_goes_12 (by decide) (fun c2 => ?_) (fun c2 => ?_)
      · skip
        have nc2 : wl ≤ k := (nI_leI (a := wl) (b := k) (by omega) (by omega)).mp c2
        have ek : k = wl := by omega
        refine lv_aload_n hx hb dX6_goes_44 rfl (lv_at hl 2 rfl) ?_
        refine m_get hx hb hts hin hown hK hI 0 (by decide) (hts (.fieldLink RX6 7 "WinderLaddersModel" "s" "[I") (by decide +kernel)) (v := .ref (q 1)) rfl dX6_goes_45 ?_
        refine lv_bipush (v := 7) hx hb dX6_goes_48 (by decide) ?_
        refine lv_dup2_11 hx hb dX6_goes_50 rfl rfl ?_
        refine m_ald hx hb hK hI 0 (by decide) (7) (by show _ < 140; omega) rfl (v := (goF (M 0) (M 8) k) 7) rfl dX6_goes_51 ?_
        refine lv_iload_n hx hb dX6_goes_52 rfl (lv_at hl 1 rfl) ?_
        refine lv_iadd hx hb dX6_goes_53 ?_
        refine m_ast hx hb hK hA hI 0 (by decide) (7) (by show _ < 140; omega) rfl dX6_goes_54 (fun H locs hI => ?_)
        refine lv_iload_n hx hb dX6_goes_55 rfl (lv_at hl 1 rfl) ?_
        exact m_iret (v := miV (M 0) (M 8) wl) hx hb hr hI (⟨rfl, by rw [mset_0, ms0_0, ms0_ms0, goF_lo _ _ _ (by decide), ek]⟩) dX6_goes_56 hlocks
      · skip
        have nc2 : ¬ (wl ≤ k) := fun h => c2 ((nI_leI (a := wl) (b := k) (by omega) (by omega)).mpr h)
        obtain ⟨i0, hi0, hk0⟩ := hrow k (by omega)
        have ek0 : (M 8 k).toNatClampNeg = i0 := by rw [hk0]; exact nI_clamp (by omega)
        refine lv_aload_n hx hb dX6_goes_15 rfl (lv_at hl 2 rfl) ?_
        refine lv_aload_n hx hb dX6_goes_16 rfl (lv_at hl 2 rfl) ?_
        refine m_get hx hb hts hin hown hK hI 8 (by decide) (hts (.fieldLink RX6 29 "WinderLaddersModel" "row" "[I") (by decide +kernel)) (v := .ref (q 7)) rfl dX6_goes_17 ?_
        refine lv_iload_n hx hb dX6_goes_20 rfl (lv_at hl 0 rfl) ?_
        refine m_ald hx hb hK hI 8 (by decide) (k) (by show _ < 80; omega) rfl (v := nI i0) ((by rw [ms0_k _ _ (by decide)]; exact hk0)) dX6_goes_21 ?_
        refine m_calli (As := [.int (nI i0)]) (rest := []) hx hb hml hown hts hK hI (k_X6_canWind l dd g q A hA (ms0 M (goF (M 0) (M 8) k)) i0 (by omega) hW3) (cwV 1 hts gX6_goes_X6_canWind rfl rfl rfl (by decide +kernel) ⟨Nat.le_of_ble_eq_true rfl, Nat.le_of_ble_eq_true rfl⟩) rfl hl (Nat.le_of_ble_eq_true rfl) ⟨Nat.zero_le _, Nat.zero_le _⟩ dX6_goes_22 rfl (fun r M1 H locs h4 hI => ?_)
        obtain ⟨h4, hm9⟩ := h4
        rw [hm9] at hI
        rcases h4 with ⟨b3, rfl⟩ | ⟨b3, rfl⟩
        · skip
          have b3 : canW (goF (M 0) (M 8) k) i0 = true := b3
          refine lv_if_eq (tgt := 38) hx hb dX6_goes_25 (by decide) (fun c5 => absurd c5 (by decide)) (fun _ => ?_)
          refine lv_aload_n hx hb dX6_goes_28 rfl (lv_at hl 2 rfl) ?_
          refine lv_aload_n hx hb dX6_goes_29 rfl (lv_at hl 2 rfl) ?_
          refine m_get hx hb hts hin hown hK hI 8 (by decide) (hts (.fieldLink RX6 29 "WinderLaddersModel" "row" "[I") (by decide +kernel)) (v := .ref (q 7)) rfl dX6_goes_30 ?_
          refine lv_iload_n hx hb dX6_goes_33 rfl (lv_at hl 0 rfl) ?_
          refine m_ald hx hb hK hI 8 (by decide) (k) (by show _ < 80; omega) rfl (v := nI i0) ((by rw [ms0_k _ _ (by decide)]; exact hk0)) dX6_goes_34 ?_
          refine m_callv (As := [.int (nI i0)]) (rest := []) hx hb hml hown hts hK hI (k_X6_work l dd g q A hA (ms0 M (goF (M 0) (M 8) k)) i0 (by omega)) (cwV 1 hts gX6_goes_X6_work rfl rfl rfl (by decide +kernel) ⟨Nat.le_of_ble_eq_true rfl, Nat.le_of_ble_eq_true rfl⟩) rfl hl (Nat.le_of_ble_eq_true rfl) ⟨Nat.zero_le _, Nat.zero_le _⟩ dX6_goes_35 rfl (fun M1 H locs h6 hI => ?_)
          subst h6
          refine lv_iinc (v := nI (k + 1)) (lv' := [(2, .int (nI (k + 1))), (1, .int (miV (M 0) (M 8) wl)), (0, .ref (q 0))]) hx hb dX6_goes_38 hl (k := 0) rfl (by rw [show Int32.ofInt 1 = nI 1 from rfl, nI_add]) (by decide) rfl (fun ls hl => ?_)
          refine lv_goto (tgt := 7) hx hb dX6_goes_41 (by decide) ?_
          exact ih (k + 1) (by omega) (by omega) _ _ _ (by simpa [goF, ek0, ms0_0, ms0_ms0, c2, nc2, b3] using hI) (lv_sub hl [0, 1, 2] rfl)
        · skip
          have b3 : canW (goF (M 0) (M 8) k) i0 = false := b3
          refine lv_if_eq (tgt := 38) hx hb dX6_goes_25 (by decide) (fun _ => ?_) (fun c7 => absurd (by decide) c7)
          refine lv_iinc (v := nI (k + 1)) (lv' := [(2, .int (nI (k + 1))), (1, .int (miV (M 0) (M 8) wl)), (0, .ref (q 0))]) hx hb dX6_goes_38 hl (k := 0) rfl (by rw [show Int32.ofInt 1 = nI 1 from rfl, nI_add]) (by decide) rfl (fun ls hl => ?_)
          refine lv_goto (tgt := 7) hx hb dX6_goes_41 (by decide) ?_
          exact ih (k + 1) (by omega) (by omega) _ _ _ (by simpa [goF, ek0, ms0_0, ms0_ms0, c2, nc2, b3] using hI) (lv_sub hl [0, 1, 2] rfl)
  exact L7 81 0 (by omega) (by omega) _ _ _ (by rw [show ms0 M (goF (M 0) (M 8) 0) = M from ms0_self M]; exact hI) (lv_sub hl [0, 1, 2] rfl)
end
section
set_option maxHeartbeats 4000000 in
set_option maxRecDepth 100000 in
theorem k_X6_layOut0 (l : Launch) (dd : va_G) (g : Nat → ClassId) (q : Nat → Nat) (A : Nat → Prop) (hA : mA A q) (M : MS) (x : Int32) (hW : Wk (M 0)) : Met l yX6_layOut wsX6_layOut ({ frames := 0, cells := 0, slots := 0, locals := 0 }) (mPre dd g q M [.ref (q 0), .int x, .int 0]) (mQi dd g q A (fun r M' => r = loR x (loL (cn (M 0)) x false (M 8) (cn (M 0))) ∧ M' = loM M (cn (M 0)) x false (cn (M 0)))) 0 0 A := by
  refine Met.ofW (cc := cX6_layOut) (maxL := 5) (ret := (some .int)) (by decide) rfl ?_
  intro p e s m args below meth c s₁ B hml hv
  obtain ⟨rfl, hP0, hK⟩ := hv
  have hx := B.exec
  have hb := B.bytes
  have hr := B.returns
  have hts := atoms_spec (ws := wsX6_layOut) B.pre
  have hown : s.vm.findClass RX6 = some m.cls := findClass_of_methodNamed B.named
  have hlocks := B.notSynchronized
  have hin : ∀ w ∈ wsX60, w ∈ wsX6_layOut := by decide +kernel
  have hI : mI dd g q A s.heap s.heap [] M := ⟨hP0, va_S.rf⟩
  have hl := lv_entry ([.ref (q 0), .int x, .int 0]) (n := 5) (Nat.le_of_ble_eq_true rfl)
  rw [lg_entry_eq]
  generalize (lg_sl ([.ref (q 0), .int x, .int 0]) ++ List.replicate (5 - (lg_sl ([.ref (q 0), .int x, .int 0])).length) Slot.unset).toArray = ls at hl ⊢
  have hl : lv_has ls 5 [(0, .ref (q 0)), (1, .int x), (2, .int 0)] := hl
  have hc16 := hW.2.1
  have hl4 := hW.2.2.2
  refine lv_aload_n hx hb dX6_layOut_0 rfl (lv_at hl 0 rfl) ?_
  refine lv_iconst (v := 0) hx hb dX6_layOut_1 (by decide) ?_
  refine m_put hx hb hts hin hown hK hA hI 9 (by decide) (hts (.fieldLink RX6 58 "WinderLaddersModel" "inRow" "I") (by decide +kernel)) (fun h => absurd h (by decide)) dX6_layOut_2 (fun H locs hI => ?_)
  refine lv_iconst (v := 0) hx hb dX6_layOut_5 (by decide) ?_
  refine lv_istore_n (lv' := [(3, .int 0), (0, .ref (q 0)), (1, .int x), (2, .int 0)]) hx hb dX6_layOut_6 rfl hl (by decide) rfl (fun ls hl => ?_)
  have L7 : ∀ (fuel : Nat) (k : Nat) (h1 : k ≤ cn (M 0)) (h2 : cn (M 0) < fuel + k) (H : Heap) (locs : List Loc) (ls : Array Slot), mI dd g q A s.heap H locs (loM M (cn (M 0)) x false k) → lv_has ls 5 [(3, .int (nI k)), (0, .ref (q 0)), (1, .int x), (2, .int 0)] → wk p l e wsX6_layOut { frames := 0, cells := 0, slots := 0, locals := 0 } s m [.ref (q 0), .int x, .int 0] below meth c H locs (mQi dd g q A (fun r M' => r = loR x (loL (cn (M 0)) x false (M 8) (cn (M 0))) ∧ M' = loM M (cn (M 0)) x false (cn (M 0)))) (A) (F0 m 7 ls []) := by
    intro fuel
    induction fuel with
    | zero =>
      intro k h1 h2 H locs ls hI hl
      exact absurd h2 (by omega)
    | succ fuel ih =>
      intro k h1 h2 H locs ls hI hl
      have hll := loL_le (cn (M 0)) x false (M 8) k
      refine lv_iload_n hx hb dX6_layOut_7 rfl (lv_at hl 0 rfl) ?_
      refine lv_aload_n hx hb dX6_layOut_8 rfl (lv_at hl 1 rfl) ?_
      refine m_get hx hb hts hin hown hK hI 0 (by decide) (hts (.fieldLink RX6 7 "WinderLaddersModel" "s" "[I") (by decide +kernel)) (v := .ref (q 1)) rfl dX6_layOut_9 ?_
      refine lv_iconst (v := 5) hx hb dX6_layOut_12 (by decide) ?_
      refine m_ald hx hb hK hI 0 (by decide) (5) (by show _ < 140; omega) rfl (v := nI (cn (M 0))) ((by rw [loM_k _ _ _ _ _ (by decide) (by decide)]; exact hW.1)) dX6_layOut_13 ?_
      refine lv_icmp_ge (tgt := 74) hx hb dX6_layOut_14 (by decide) (fun c1 => ?_) (fun c1 => ?_)
      · skip
        have nc1 : cn (M 0) ≤ k := (nI_leI (a := cn (M 0)) (b := k) (by omega) (by omega)).mp c1
        have ek : k = cn (M 0) := by omega
        refine lv_iload_n hx hb dX6_layOut_74 rfl (lv_at hl 2 rfl) ?_
        refine lv_if_ge (tgt := 83) hx hb dX6_layOut_75 (by decide) (fun c2 => ?_) (fun c2 => ?_)
        · skip
          refine lv_aload_n hx hb dX6_layOut_83 rfl (lv_at hl 1 rfl) ?_
          refine m_get hx hb hts hin hown hK hI 9 (by decide) (hts (.fieldLink RX6 58 "WinderLaddersModel" "inRow" "I") (by decide +kernel)) (v := .int (nI (loL (cn (M 0)) x false (M 8) k))) (congrArg (fun z => some (Value.int z)) ((by simp [loM, mset]))) dX6_layOut_84 ?_
          refine lv_if_ne (tgt := 95) hx hb dX6_layOut_87 (by decide) (fun c3 => ?_) (fun c3 => ?_)
          · skip
            have nc3 : ¬ (loL (cn (M 0)) x false (M 8) k = 0) := fun h => c3 ((nI_eq (a := loL (cn (M 0)) x false (M 8) k) (b := 0) (by omega) (by omega)).mpr h)
            refine lv_iconst (v := 0) hx hb dX6_layOut_95 (by decide) ?_
            exact m_iret (v := 0) hx hb hr hI (⟨by rw [show loL (cn (M 0)) x false (M 8) (cn (M 0)) = loL (cn (M 0)) x false (M 8) k by rw [ek]]; simp [loR, -Int32.not_le, c1, nc1, c2, c3, nc3], by rw [ek]⟩) dX6_layOut_96 hlocks
          · skip
            have nc3 : loL (cn (M 0)) x false (M 8) k = 0 := (nI_eq (a := loL (cn (M 0)) x false (M 8) k) (b := 0) (by omega) (by omega)).mp c3
            refine lv_bipush (v := (-5)) hx hb dX6_layOut_90 (by decide) ?_
            refine lv_goto (tgt := 96) hx hb dX6_layOut_92 (by decide) ?_
            exact m_iret (v := (-5)) hx hb hr hI (⟨by rw [show loL (cn (M 0)) x false (M 8) (cn (M 0)) = loL (cn (M 0)) x false (M 8) k by rw [ek]]; simp [loR, -Int32.not_le, c1, nc1, c2, c3, nc3], by rw [ek]⟩) dX6_layOut_96 hlocks
        · skip
          refine lv_bipush (v := (-2)) hx hb dX6_layOut_78 (by decide) ?_
          refine lv_goto (tgt := 96) hx hb dX6_layOut_80 (by decide) ?_
          exact m_iret (v := (-2)) hx hb hr hI (⟨by rw [show loL (cn (M 0)) x false (M 8) (cn (M 0)) = loL (cn (M 0)) x false (M 8) k by rw [ek]]; simp [loR, -Int32.not_le, c1, nc1, c2], by rw [ek]⟩) dX6_layOut_96 hlocks
      · skip
        have nc1 : ¬ (cn (M 0) ≤ k) := fun h => c1 ((nI_leI (a := cn (M 0)) (b := k) (by omega) (by omega)).mpr h)
        refine lv_iload_n hx hb dX6_layOut_17 rfl (lv_at hl 3 rfl) ?_
        refine lv_if_eq (tgt := 34) hx hb dX6_layOut_18 (by decide) (fun _ => ?_) (fun c4 => absurd (by decide) c4)
        refine lv_iload_n hx hb dX6_layOut_34 rfl (lv_at hl 0 rfl) ?_
        refine lv_istore (lv' := [(4, .int (nI k)), (3, .int (nI k)), (0, .ref (q 0)), (1, .int x), (2, .int 0)]) hx hb dX6_layOut_35 hl (by decide) rfl (fun ls hl => ?_)
        refine lv_iload_n hx hb dX6_layOut_37 rfl (lv_at hl 3 rfl) ?_
        refine lv_iload hx hb dX6_layOut_38 (lv_at hl 0 rfl) ?_
        refine lv_ishr hx hb dX6_layOut_40 ?_
        refine lv_iconst (v := 1) hx hb dX6_layOut_41 (by decide) ?_
        refine lv_iand hx hb dX6_layOut_42 ?_
        refine lv_iconst (v := 1) hx hb dX6_layOut_43 (by decide) ?_
        refine lv_icmp_ne (tgt := 68) hx hb dX6_layOut_44 (by decide) (fun c5 => ?_) (fun c5 => ?_)
        · skip
          refine lv_iinc (v := nI (k + 1)) (lv' := [(3, .int (nI (k + 1))), (4, .int (nI k)), (0, .ref (q 0)), (1, .int x), (2, .int 0)]) hx hb dX6_layOut_68 hl (k := 1) rfl (by rw [show Int32.ofInt 1 = nI 1 from rfl, nI_add]) (by decide) rfl (fun ls hl => ?_)
          refine lv_goto (tgt := 7) hx hb dX6_layOut_71 (by decide) ?_
          exact ih (k + 1) (by omega) (by omega) _ _ _ (by have e := loM_f (M := M) (n := cn (M 0)) (b := false) (k := k) c5; exact e ▸ hI) (lv_sub hl [0, 2, 3, 4] rfl)
        · skip
          refine lv_aload_n hx hb dX6_layOut_47 rfl (lv_at hl 2 rfl) ?_
          refine m_get hx hb hts hin hown hK hI 8 (by decide) (hts (.fieldLink RX6 29 "WinderLaddersModel" "row" "[I") (by decide +kernel)) (v := .ref (q 7)) rfl dX6_layOut_48 ?_
          refine lv_aload_n hx hb dX6_layOut_51 rfl (lv_at hl 2 rfl) ?_
          refine m_get hx hb hts hin hown hK hI 9 (by decide) (hts (.fieldLink RX6 58 "WinderLaddersModel" "inRow" "I") (by decide +kernel)) (v := .int (nI (loL (cn (M 0)) x false (M 8) k))) (congrArg (fun z => some (Value.int z)) ((by simp [loM, mset]))) dX6_layOut_52 ?_
          refine lv_iload hx hb dX6_layOut_55 (lv_at hl 0 rfl) ?_
          refine m_ast hx hb hK hA hI 8 (by decide) (loL (cn (M 0)) x false (M 8) k) (by show _ < 80; omega) rfl dX6_layOut_57 (fun H locs hI => ?_)
          refine lv_aload_n hx hb dX6_layOut_58 rfl (lv_at hl 2 rfl) ?_
          refine lv_dup hx hb dX6_layOut_59 rfl ?_
          refine m_get hx hb hts hin hown hK hI 9 (by decide) (hts (.fieldLink RX6 58 "WinderLaddersModel" "inRow" "I") (by decide +kernel)) (v := .int (nI (loL (cn (M 0)) x false (M 8) k))) (congrArg (fun z => some (Value.int z)) ((mset_nk _ (by decide) _ _ _).trans ((by simp [loM, mset])))) dX6_layOut_60 ?_
          refine lv_iconst (v := 1) hx hb dX6_layOut_63 (by decide) ?_
          refine lv_iadd hx hb dX6_layOut_64 ?_
          refine lv_re (y := nI (loL (cn (M 0)) x false (M 8) k + 1)) (nI_add (loL (cn (M 0)) x false (M 8) k) (1)) ?_
          refine m_put hx hb hts hin hown hK hA hI 9 (by decide) (hts (.fieldLink RX6 58 "WinderLaddersModel" "inRow" "I") (by decide +kernel)) (fun h => absurd h (by decide)) dX6_layOut_65 (fun H locs hI => ?_)
          refine lv_iinc (v := nI (k + 1)) (lv' := [(3, .int (nI (k + 1))), (4, .int (nI k)), (0, .ref (q 0)), (1, .int x), (2, .int 0)]) hx hb dX6_layOut_68 hl (k := 1) rfl (by rw [show Int32.ofInt 1 = nI 1 from rfl, nI_add]) (by decide) rfl (fun ls hl => ?_)
          refine lv_goto (tgt := 7) hx hb dX6_layOut_71 (by decide) ?_
          exact ih (k + 1) (by omega) (by omega) _ _ _ (by have e := loM_t (M := M) (n := cn (M 0)) (b := false) (k := k) c5; exact e ▸ hI) (lv_sub hl [0, 2, 3, 4] rfl)
  exact L7 17 0 (by omega) (by omega) _ _ _ (by rw [loM_0 M (cn (M 0)) x false] at hI; exact hI) (lv_sub hl [0, 1, 2, 3] rfl)

set_option maxHeartbeats 4000000 in
set_option maxRecDepth 100000 in
theorem k_X6_layOut1 (l : Launch) (dd : va_G) (g : Nat → ClassId) (q : Nat → Nat) (A : Nat → Prop) (hA : mA A q) (M : MS) (x : Int32) (hW : Wk (M 0)) : Met l yX6_layOut wsX6_layOut ({ frames := 0, cells := 0, slots := 0, locals := 0 }) (mPre dd g q M [.ref (q 0), .int x, .int 1]) (mQi dd g q A (fun r M' => r = loR x (loL (cn (M 0)) x true (M 8) (cn (M 0))) ∧ M' = loM M (cn (M 0)) x true (cn (M 0)))) 0 0 A := by
  refine Met.ofW (cc := cX6_layOut) (maxL := 5) (ret := (some .int)) (by decide) rfl ?_
  intro p e s m args below meth c s₁ B hml hv
  obtain ⟨rfl, hP0, hK⟩ := hv
  have hx := B.exec
  have hb := B.bytes
  have hr := B.returns
  have hts := atoms_spec (ws := wsX6_layOut) B.pre
  have hown : s.vm.findClass RX6 = some m.cls := findClass_of_methodNamed B.named
  have hlocks := B.notSynchronized
  have hin : ∀ w ∈ wsX60, w ∈ wsX6_layOut := by decide +kernel
  have hI : mI dd g q A s.heap s.heap [] M := ⟨hP0, va_S.rf⟩
  have hl := lv_entry ([.ref (q 0), .int x, .int 1]) (n := 5) (Nat.le_of_ble_eq_true rfl)
  rw [lg_entry_eq]
  generalize (lg_sl ([.ref (q 0), .int x, .int 1]) ++ List.replicate (5 - (lg_sl ([.ref (q 0), .int x, .int 1])).length) Slot.unset).toArray = ls at hl ⊢
  have hl : lv_has ls 5 [(0, .ref (q 0)), (1, .int x), (2, .int 1)] := hl
  have hc16 := hW.2.1
  have hl4 := hW.2.2.2
  refine lv_aload_n hx hb dX6_layOut_0 rfl (lv_at hl 0 rfl) ?_
  refine lv_iconst (v := 0) hx hb dX6_layOut_1 (by decide) ?_
  refine m_put hx hb hts hin hown hK hA hI 9 (by decide) (hts (.fieldLink RX6 58 "WinderLaddersModel" "inRow" "I") (by decide +kernel)) (fun h => absurd h (by decide)) dX6_layOut_2 (fun H locs hI => ?_)
  refine lv_iconst (v := 0) hx hb dX6_layOut_5 (by decide) ?_
  refine lv_istore_n (lv' := [(3, .int 0), (0, .ref (q 0)), (1, .int x), (2, .int 1)]) hx hb dX6_layOut_6 rfl hl (by decide) rfl (fun ls hl => ?_)
  have L7 : ∀ (fuel : Nat) (k : Nat) (h1 : k ≤ cn (M 0)) (h2 : cn (M 0) < fuel + k) (H : Heap) (locs : List Loc) (ls : Array Slot), mI dd g q A s.heap H locs (loM M (cn (M 0)) x true k) → lv_has ls 5 [(3, .int (nI k)), (0, .ref (q 0)), (1, .int x), (2, .int 1)] → wk p l e wsX6_layOut { frames := 0, cells := 0, slots := 0, locals := 0 } s m [.ref (q 0), .int x, .int 1] below meth c H locs (mQi dd g q A (fun r M' => r = loR x (loL (cn (M 0)) x true (M 8) (cn (M 0))) ∧ M' = loM M (cn (M 0)) x true (cn (M 0)))) (A) (F0 m 7 ls []) := by
    intro fuel
    induction fuel with
    | zero =>
      intro k h1 h2 H locs ls hI hl
      exact absurd h2 (by omega)
    | succ fuel ih =>
      intro k h1 h2 H locs ls hI hl
      have hll := loL_le (cn (M 0)) x true (M 8) k
      refine lv_iload_n hx hb dX6_layOut_7 rfl (lv_at hl 0 rfl) ?_
      refine lv_aload_n hx hb dX6_layOut_8 rfl (lv_at hl 1 rfl) ?_
      refine m_get hx hb hts hin hown hK hI 0 (by decide) (hts (.fieldLink RX6 7 "WinderLaddersModel" "s" "[I") (by decide +kernel)) (v := .ref (q 1)) rfl dX6_layOut_9 ?_
      refine lv_iconst (v := 5) hx hb dX6_layOut_12 (by decide) ?_
      refine m_ald hx hb hK hI 0 (by decide) (5) (by show _ < 140; omega) rfl (v := nI (cn (M 0))) ((by rw [loM_k _ _ _ _ _ (by decide) (by decide)]; exact hW.1)) dX6_layOut_13 ?_
      refine lv_icmp_ge (tgt := 74) hx hb dX6_layOut_14 (by decide) (fun c1 => ?_) (fun c1 => ?_)
      · skip
        have nc1 : cn (M 0) ≤ k := (nI_leI (a := cn (M 0)) (b := k) (by omega) (by omega)).mp c1
        have ek : k = cn (M 0) := by omega
        refine lv_iload_n hx hb dX6_layOut_74 rfl (lv_at hl 2 rfl) ?_
        refine lv_if_ge (tgt := 83) hx hb dX6_layOut_75 (by decide) (fun c2 => ?_) (fun c2 => ?_)
        · skip
          refine lv_aload_n hx hb dX6_layOut_83 rfl (lv_at hl 1 rfl) ?_
          refine m_get hx hb hts hin hown hK hI 9 (by decide) (hts (.fieldLink RX6 58 "WinderLaddersModel" "inRow" "I") (by decide +kernel)) (v := .int (nI (loL (cn (M 0)) x true (M 8) k))) (congrArg (fun z => some (Value.int z)) ((by simp [loM, mset]))) dX6_layOut_84 ?_
          refine lv_if_ne (tgt := 95) hx hb dX6_layOut_87 (by decide) (fun c3 => ?_) (fun c3 => ?_)
          · skip
            have nc3 : ¬ (loL (cn (M 0)) x true (M 8) k = 0) := fun h => c3 ((nI_eq (a := loL (cn (M 0)) x true (M 8) k) (b := 0) (by omega) (by omega)).mpr h)
            refine lv_iconst (v := 0) hx hb dX6_layOut_95 (by decide) ?_
            exact m_iret (v := 0) hx hb hr hI (⟨by rw [show loL (cn (M 0)) x true (M 8) (cn (M 0)) = loL (cn (M 0)) x true (M 8) k by rw [ek]]; simp [loR, -Int32.not_le, c1, nc1, c2, c3, nc3], by rw [ek]⟩) dX6_layOut_96 hlocks
          · skip
            have nc3 : loL (cn (M 0)) x true (M 8) k = 0 := (nI_eq (a := loL (cn (M 0)) x true (M 8) k) (b := 0) (by omega) (by omega)).mp c3
            refine lv_bipush (v := (-5)) hx hb dX6_layOut_90 (by decide) ?_
            refine lv_goto (tgt := 96) hx hb dX6_layOut_92 (by decide) ?_
            exact m_iret (v := (-5)) hx hb hr hI (⟨by rw [show loL (cn (M 0)) x true (M 8) (cn (M 0)) = loL (cn (M 0)) x true (M 8) k by rw [ek]]; simp [loR, -Int32.not_le, c1, nc1, c2, c3, nc3], by rw [ek]⟩) dX6_layOut_96 hlocks
        · skip
          refine lv_bipush (v := (-2)) hx hb dX6_layOut_78 (by decide) ?_
          refine lv_goto (tgt := 96) hx hb dX6_layOut_80 (by decide) ?_
          exact m_iret (v := (-2)) hx hb hr hI (⟨by rw [show loL (cn (M 0)) x true (M 8) (cn (M 0)) = loL (cn (M 0)) x true (M 8) k by rw [ek]]; simp [loR, -Int32.not_le, c1, nc1, c2], by rw [ek]⟩) dX6_layOut_96 hlocks
      · skip
        have nc1 : ¬ (cn (M 0) ≤ k) := fun h => c1 ((nI_leI (a := cn (M 0)) (b := k) (by omega) (by omega)).mpr h)
        refine lv_iload_n hx hb dX6_layOut_17 rfl (lv_at hl 3 rfl) ?_
        refine lv_if_eq (tgt := 34) hx hb dX6_layOut_18 (by decide) (fun c4 => absurd c4 (by decide)) (fun _ => ?_)
        refine lv_aload_n hx hb dX6_layOut_21 rfl (lv_at hl 1 rfl) ?_
        refine m_get hx hb hts hin hown hK hI 0 (by decide) (hts (.fieldLink RX6 7 "WinderLaddersModel" "s" "[I") (by decide +kernel)) (v := .ref (q 1)) rfl dX6_layOut_22 ?_
        refine lv_iconst (v := 5) hx hb dX6_layOut_25 (by decide) ?_
        refine m_ald hx hb hK hI 0 (by decide) (5) (by show _ < 140; omega) rfl (v := nI (cn (M 0))) ((by rw [loM_k _ _ _ _ _ (by decide) (by decide)]; exact hW.1)) dX6_layOut_26 ?_
        refine lv_iconst (v := 1) hx hb dX6_layOut_27 (by decide) ?_
        refine lv_isub hx hb dX6_layOut_28 ?_
        refine lv_re (y := nI (cn (M 0) - 1)) (pk_sub (a := cn (M 0)) (b := 1) (by omega)) ?_
        refine lv_iload_n hx hb dX6_layOut_29 rfl (lv_at hl 0 rfl) ?_
        refine lv_isub hx hb dX6_layOut_30 ?_
        refine lv_re (y := nI (cn (M 0) - 1 - k)) (pk_sub (a := cn (M 0) - 1) (b := k) (by omega)) ?_
        refine lv_goto (tgt := 35) hx hb dX6_layOut_31 (by decide) ?_
        refine lv_istore (lv' := [(4, .int (nI (cn (M 0) - 1 - k))), (3, .int (nI k)), (0, .ref (q 0)), (1, .int x), (2, .int 1)]) hx hb dX6_layOut_35 hl (by decide) rfl (fun ls hl => ?_)
        refine lv_iload_n hx hb dX6_layOut_37 rfl (lv_at hl 3 rfl) ?_
        refine lv_iload hx hb dX6_layOut_38 (lv_at hl 0 rfl) ?_
        refine lv_ishr hx hb dX6_layOut_40 ?_
        refine lv_iconst (v := 1) hx hb dX6_layOut_41 (by decide) ?_
        refine lv_iand hx hb dX6_layOut_42 ?_
        refine lv_iconst (v := 1) hx hb dX6_layOut_43 (by decide) ?_
        refine lv_icmp_ne (tgt := 68) hx hb dX6_layOut_44 (by decide) (fun c5 => ?_) (fun c5 => ?_)
        · skip
          refine lv_iinc (v := nI (k + 1)) (lv' := [(3, .int (nI (k + 1))), (4, .int (nI (cn (M 0) - 1 - k))), (0, .ref (q 0)), (1, .int x), (2, .int 1)]) hx hb dX6_layOut_68 hl (k := 1) rfl (by rw [show Int32.ofInt 1 = nI 1 from rfl, nI_add]) (by decide) rfl (fun ls hl => ?_)
          refine lv_goto (tgt := 7) hx hb dX6_layOut_71 (by decide) ?_
          exact ih (k + 1) (by omega) (by omega) _ _ _ (by have e := loM_f (M := M) (n := cn (M 0)) (b := true) (k := k) c5; exact e ▸ hI) (lv_sub hl [0, 2, 3, 4] rfl)
        · skip
          refine lv_aload_n hx hb dX6_layOut_47 rfl (lv_at hl 2 rfl) ?_
          refine m_get hx hb hts hin hown hK hI 8 (by decide) (hts (.fieldLink RX6 29 "WinderLaddersModel" "row" "[I") (by decide +kernel)) (v := .ref (q 7)) rfl dX6_layOut_48 ?_
          refine lv_aload_n hx hb dX6_layOut_51 rfl (lv_at hl 2 rfl) ?_
          refine m_get hx hb hts hin hown hK hI 9 (by decide) (hts (.fieldLink RX6 58 "WinderLaddersModel" "inRow" "I") (by decide +kernel)) (v := .int (nI (loL (cn (M 0)) x true (M 8) k))) (congrArg (fun z => some (Value.int z)) ((by simp [loM, mset]))) dX6_layOut_52 ?_
          refine lv_iload hx hb dX6_layOut_55 (lv_at hl 0 rfl) ?_
          refine m_ast hx hb hK hA hI 8 (by decide) (loL (cn (M 0)) x true (M 8) k) (by show _ < 80; omega) rfl dX6_layOut_57 (fun H locs hI => ?_)
          refine lv_aload_n hx hb dX6_layOut_58 rfl (lv_at hl 2 rfl) ?_
          refine lv_dup hx hb dX6_layOut_59 rfl ?_
          refine m_get hx hb hts hin hown hK hI 9 (by decide) (hts (.fieldLink RX6 58 "WinderLaddersModel" "inRow" "I") (by decide +kernel)) (v := .int (nI (loL (cn (M 0)) x true (M 8) k))) (congrArg (fun z => some (Value.int z)) ((mset_nk _ (by decide) _ _ _).trans ((by simp [loM, mset])))) dX6_layOut_60 ?_
          refine lv_iconst (v := 1) hx hb dX6_layOut_63 (by decide) ?_
          refine lv_iadd hx hb dX6_layOut_64 ?_
          refine lv_re (y := nI (loL (cn (M 0)) x true (M 8) k + 1)) (nI_add (loL (cn (M 0)) x true (M 8) k) (1)) ?_
          refine m_put hx hb hts hin hown hK hA hI 9 (by decide) (hts (.fieldLink RX6 58 "WinderLaddersModel" "inRow" "I") (by decide +kernel)) (fun h => absurd h (by decide)) dX6_layOut_65 (fun H locs hI => ?_)
          refine lv_iinc (v := nI (k + 1)) (lv' := [(3, .int (nI (k + 1))), (4, .int (nI (cn (M 0) - 1 - k))), (0, .ref (q 0)), (1, .int x), (2, .int 1)]) hx hb dX6_layOut_68 hl (k := 1) rfl (by rw [show Int32.ofInt 1 = nI 1 from rfl, nI_add]) (by decide) rfl (fun ls hl => ?_)
          refine lv_goto (tgt := 7) hx hb dX6_layOut_71 (by decide) ?_
          exact ih (k + 1) (by omega) (by omega) _ _ _ (by have e := loM_t (M := M) (n := cn (M 0)) (b := true) (k := k) c5; exact e ▸ hI) (lv_sub hl [0, 2, 3, 4] rfl)
  exact L7 17 0 (by omega) (by omega) _ _ _ (by rw [loM_0 M (cn (M 0)) x true] at hI; exact hI) (lv_sub hl [0, 1, 2, 3] rfl)

set_option maxHeartbeats 4000000 in
set_option maxRecDepth 100000 in
theorem k_X6_hangFault (l : Launch) (dd : va_G) (g : Nat → ClassId) (q : Nat → Nat) (A : Nat → Prop) (hA : mA A q) (M : MS) (h u d : Int32) (hW : Wk (M 0)) : Met l yX6_hangFault wsX6_hangFault ({ frames := 1, cells := 0, slots := 0, locals := 22 }) (mPre dd g q M [.ref (q 0), .int h, .int u, .int d]) (mQi dd g q A (fun r M' => r = hangR (M 0) h u d ∧ M' = M)) 0 0 A := by
  refine Met.ofW (cc := cX6_hangFault) (maxL := 4) (ret := (some .int)) (by decide) rfl ?_
  intro p e s m args below meth c s₁ B hml hv
  obtain ⟨rfl, hP0, hK⟩ := hv
  have hx := B.exec
  have hb := B.bytes
  have hr := B.returns
  have hts := atoms_spec (ws := wsX6_hangFault) B.pre
  have hown : s.vm.findClass RX6 = some m.cls := findClass_of_methodNamed B.named
  have hlocks := B.notSynchronized
  have hin : ∀ w ∈ wsX60, w ∈ wsX6_hangFault := by decide +kernel
  have hI : mI dd g q A s.heap s.heap [] M := ⟨hP0, va_S.rf⟩
  have hl := lv_entry ([.ref (q 0), .int h, .int u, .int d]) (n := 4) (Nat.le_of_ble_eq_true rfl)
  rw [lg_entry_eq]
  generalize (lg_sl ([.ref (q 0), .int h, .int u, .int d]) ++ List.replicate (4 - (lg_sl ([.ref (q 0), .int h, .int u, .int d])).length) Slot.unset).toArray = ls at hl ⊢
  have hl : lv_has ls 4 [(0, .ref (q 0)), (1, .int h), (2, .int u), (3, .int d)] := hl
  have hc16 := hW.2.1
  have hl4 := hW.2.2.2
  refine lv_iload_n hx hb dX6_hangFault_0 rfl (lv_at hl 1 rfl) ?_
  refine lv_iconst (v := 0) hx hb dX6_hangFault_1 (by decide) ?_
  refine lv_bipush (v := 99) hx hb dX6_hangFault_2 (by decide) ?_
  refine m_calls (As := [.int h, .int 0, .int 99]) (rest := []) hx hb hml hown hts hI (k_X6_in l h 0 99) (va_cwS 3 hts gX6_hangFault_X6_in rfl rfl rfl (by decide +kernel) ⟨Nat.le_of_ble_eq_true rfl, Nat.le_of_ble_eq_true rfl⟩) rfl hl (Nat.le_of_ble_eq_true rfl) ⟨Nat.zero_le _, Nat.zero_le _⟩ dX6_hangFault_4 rfl (fun r H locs h2 hI => ?_)
  rcases h2 with ⟨b1, rfl⟩ | ⟨b1, rfl⟩
  · skip
    refine lv_if_eq (tgt := 31) hx hb dX6_hangFault_7 (by decide) (fun c3 => absurd c3 (by decide)) (fun _ => ?_)
    refine lv_iload_n hx hb dX6_hangFault_10 rfl (lv_at hl 2 rfl) ?_
    refine lv_iconst (v := 0) hx hb dX6_hangFault_11 (by decide) ?_
    refine lv_bipush (v := 30) hx hb dX6_hangFault_12 (by decide) ?_
    refine m_calls (As := [.int u, .int 0, .int 30]) (rest := []) hx hb hml hown hts hI (k_X6_in l u 0 30) (va_cwS 3 hts gX6_hangFault_X6_in rfl rfl rfl (by decide +kernel) ⟨Nat.le_of_ble_eq_true rfl, Nat.le_of_ble_eq_true rfl⟩) rfl hl (Nat.le_of_ble_eq_true rfl) ⟨Nat.zero_le _, Nat.zero_le _⟩ dX6_hangFault_14 rfl (fun r H locs h5 hI => ?_)
    rcases h5 with ⟨b4, rfl⟩ | ⟨b4, rfl⟩
    · skip
      refine lv_if_eq (tgt := 31) hx hb dX6_hangFault_17 (by decide) (fun c6 => absurd c6 (by decide)) (fun _ => ?_)
      refine lv_iload_n hx hb dX6_hangFault_20 rfl (lv_at hl 3 rfl) ?_
      refine lv_bipush (v := (-99)) hx hb dX6_hangFault_21 (by decide) ?_
      refine lv_bipush (v := 99) hx hb dX6_hangFault_23 (by decide) ?_
      refine m_calls (As := [.int d, .int ((-99)), .int 99]) (rest := []) hx hb hml hown hts hI (k_X6_in l d (-99) 99) (va_cwS 3 hts gX6_hangFault_X6_in rfl rfl rfl (by decide +kernel) ⟨Nat.le_of_ble_eq_true rfl, Nat.le_of_ble_eq_true rfl⟩) rfl hl (Nat.le_of_ble_eq_true rfl) ⟨Nat.zero_le _, Nat.zero_le _⟩ dX6_hangFault_25 rfl (fun r H locs h8 hI => ?_)
      rcases h8 with ⟨b7, rfl⟩ | ⟨b7, rfl⟩
      · skip
        refine lv_if_ne (tgt := 34) hx hb dX6_hangFault_28 (by decide) (fun _ => ?_) (fun c9 => absurd c9 (by decide))
        refine lv_aload_n hx hb dX6_hangFault_34 rfl (lv_at hl 0 rfl) ?_
        refine m_get hx hb hts hin hown hK hI 0 (by decide) (hts (.fieldLink RX6 7 "WinderLaddersModel" "s" "[I") (by decide +kernel)) (v := .ref (q 1)) rfl dX6_hangFault_35 ?_
        refine lv_iconst (v := 5) hx hb dX6_hangFault_38 (by decide) ?_
        refine m_ald hx hb hK hI 0 (by decide) (5) (by show _ < 140; omega) rfl (v := nI (cn (M 0))) hW.1 dX6_hangFault_39 ?_
        refine lv_bipush (v := 16) hx hb dX6_hangFault_40 (by decide) ?_
        refine lv_icmp_ne (tgt := 50) hx hb dX6_hangFault_42 (by decide) (fun c10 => ?_) (fun c10 => ?_)
        · skip
          have nc10 : ¬ (cn (M 0) = 16) := fun h => c10 ((nI_eq (a := cn (M 0)) (b := 16) (by omega) (by omega)).mpr h)
          refine lv_iconst (v := 0) hx hb dX6_hangFault_50 (by decide) ?_
          exact m_iret (v := 0) hx hb hr hI (⟨by simp [hangR, b1, b4, b7, c10, nc10], rfl⟩) dX6_hangFault_51 hlocks
        · skip
          have nc10 : cn (M 0) = 16 := (nI_eq (a := cn (M 0)) (b := 16) (by omega) (by omega)).mp c10
          refine lv_bipush (v := (-4)) hx hb dX6_hangFault_45 (by decide) ?_
          refine lv_goto (tgt := 51) hx hb dX6_hangFault_47 (by decide) ?_
          exact m_iret (v := (-4)) hx hb hr hI (⟨by simp [hangR, b1, b4, b7, c10, nc10], rfl⟩) dX6_hangFault_51 hlocks
      · skip
        refine lv_if_ne (tgt := 34) hx hb dX6_hangFault_28 (by decide) (fun c11 => absurd (by decide) c11) (fun _ => ?_)
        refine lv_bipush (v := (-2)) hx hb dX6_hangFault_31 (by decide) ?_
        exact m_iret (v := (-2)) hx hb hr hI (⟨by simp [hangR, b1, b4, b7], rfl⟩) dX6_hangFault_33 hlocks
    · skip
      refine lv_if_eq (tgt := 31) hx hb dX6_hangFault_17 (by decide) (fun _ => ?_) (fun c12 => absurd (by decide) c12)
      refine lv_bipush (v := (-2)) hx hb dX6_hangFault_31 (by decide) ?_
      exact m_iret (v := (-2)) hx hb hr hI (⟨by simp [hangR, b1, b4], rfl⟩) dX6_hangFault_33 hlocks
  · skip
    refine lv_if_eq (tgt := 31) hx hb dX6_hangFault_7 (by decide) (fun _ => ?_) (fun c13 => absurd (by decide) c13)
    refine lv_bipush (v := (-2)) hx hb dX6_hangFault_31 (by decide) ?_
    exact m_iret (v := (-2)) hx hb hr hI (⟨by simp [hangR, b1], rfl⟩) dX6_hangFault_33 hlocks

set_option maxHeartbeats 4000000 in
set_option maxRecDepth 100000 in
theorem k_X6_ladderFault (l : Launch) (dd : va_G) (g : Nat → ClassId) (q : Nat → Nat) (A : Nat → Prop) (hA : mA A q) (M : MS) (u : Int32) (hW : Wk (M 0)) : Met l yX6_ladderFault wsX6_ladderFault ({ frames := 1, cells := 0, slots := 0, locals := 22 }) (mPre dd g q M [.ref (q 0), .int u]) (mQi dd g q A (fun r M' => r = lddR (M 0) u ∧ M' = M)) 0 0 A := by
  refine Met.ofW (cc := cX6_ladderFault) (maxL := 2) (ret := (some .int)) (by decide) rfl ?_
  intro p e s m args below meth c s₁ B hml hv
  obtain ⟨rfl, hP0, hK⟩ := hv
  have hx := B.exec
  have hb := B.bytes
  have hr := B.returns
  have hts := atoms_spec (ws := wsX6_ladderFault) B.pre
  have hown : s.vm.findClass RX6 = some m.cls := findClass_of_methodNamed B.named
  have hlocks := B.notSynchronized
  have hin : ∀ w ∈ wsX60, w ∈ wsX6_ladderFault := by decide +kernel
  have hI : mI dd g q A s.heap s.heap [] M := ⟨hP0, va_S.rf⟩
  have hl := lv_entry ([.ref (q 0), .int u]) (n := 2) (Nat.le_of_ble_eq_true rfl)
  rw [lg_entry_eq]
  generalize (lg_sl ([.ref (q 0), .int u]) ++ List.replicate (2 - (lg_sl ([.ref (q 0), .int u])).length) Slot.unset).toArray = ls at hl ⊢
  have hl : lv_has ls 2 [(0, .ref (q 0)), (1, .int u)] := hl
  have hc16 := hW.2.1
  have hl4 := hW.2.2.2
  refine lv_iload_n hx hb dX6_ladderFault_0 rfl (lv_at hl 1 rfl) ?_
  refine lv_iconst (v := 1) hx hb dX6_ladderFault_1 (by decide) ?_
  refine lv_bipush (v := 30) hx hb dX6_ladderFault_2 (by decide) ?_
  refine m_calls (As := [.int u, .int 1, .int 30]) (rest := []) hx hb hml hown hts hI (k_X6_in l u 1 30) (va_cwS 3 hts gX6_ladderFault_X6_in rfl rfl rfl (by decide +kernel) ⟨Nat.le_of_ble_eq_true rfl, Nat.le_of_ble_eq_true rfl⟩) rfl hl (Nat.le_of_ble_eq_true rfl) ⟨Nat.zero_le _, Nat.zero_le _⟩ dX6_ladderFault_4 rfl (fun r H locs h2 hI => ?_)
  rcases h2 with ⟨b1, rfl⟩ | ⟨b1, rfl⟩
  · skip
    refine lv_if_ne (tgt := 15) hx hb dX6_ladderFault_7 (by decide) (fun _ => ?_) (fun c3 => absurd c3 (by decide))
    refine lv_aload_n hx hb dX6_ladderFault_15 rfl (lv_at hl 0 rfl) ?_
    refine m_get hx hb hts hin hown hK hI 0 (by decide) (hts (.fieldLink RX6 7 "WinderLaddersModel" "s" "[I") (by decide +kernel)) (v := .ref (q 1)) rfl dX6_ladderFault_16 ?_
    refine lv_bipush (v := 6) hx hb dX6_ladderFault_19 (by decide) ?_
    refine m_ald hx hb hK hI 0 (by decide) (6) (by show _ < 140; omega) rfl (v := nI (ln (M 0))) hW.2.2.1 dX6_ladderFault_21 ?_
    refine lv_iconst (v := 4) hx hb dX6_ladderFault_22 (by decide) ?_
    refine lv_icmp_ne (tgt := 31) hx hb dX6_ladderFault_23 (by decide) (fun c4 => ?_) (fun c4 => ?_)
    · skip
      have nc4 : ¬ (ln (M 0) = 4) := fun h => c4 ((nI_eq (a := ln (M 0)) (b := 4) (by omega) (by omega)).mpr h)
      refine lv_iconst (v := 0) hx hb dX6_ladderFault_31 (by decide) ?_
      exact m_iret (v := 0) hx hb hr hI (⟨by simp [lddR, b1, c4, nc4], rfl⟩) dX6_ladderFault_32 hlocks
    · skip
      have nc4 : ln (M 0) = 4 := (nI_eq (a := ln (M 0)) (b := 4) (by omega) (by omega)).mp c4
      refine lv_bipush (v := (-4)) hx hb dX6_ladderFault_26 (by decide) ?_
      refine lv_goto (tgt := 32) hx hb dX6_ladderFault_28 (by decide) ?_
      exact m_iret (v := (-4)) hx hb hr hI (⟨by simp [lddR, b1, c4, nc4], rfl⟩) dX6_ladderFault_32 hlocks
  · skip
    refine lv_if_ne (tgt := 15) hx hb dX6_ladderFault_7 (by decide) (fun c5 => absurd (by decide) c5) (fun _ => ?_)
    refine lv_bipush (v := (-2)) hx hb dX6_ladderFault_10 (by decide) ?_
    refine lv_goto (tgt := 32) hx hb dX6_ladderFault_12 (by decide) ?_
    exact m_iret (v := (-2)) hx hb hr hI (⟨by simp [lddR, b1], rfl⟩) dX6_ladderFault_32 hlocks

set_option maxHeartbeats 4000000 in
set_option maxRecDepth 100000 in
theorem k_X6_passFault (l : Launch) (dd : va_G) (g : Nat → ClassId) (q : Nat → Nat) (A : Nat → Prop) (hA : mA A q) (M : MS) (d : Int32) : Met l yX6_passFault wsX6_passFault ({ frames := 1, cells := 0, slots := 0, locals := 22 }) (mPre dd g q M [.ref (q 0), .int d]) (mQi dd g q A (fun r M' => r = passR (M 0) d ∧ M' = M)) 0 0 A := by
  refine Met.ofW (cc := cX6_passFault) (maxL := 2) (ret := (some .int)) (by decide) rfl ?_
  intro p e s m args below meth c s₁ B hml hv
  obtain ⟨rfl, hP0, hK⟩ := hv
  have hx := B.exec
  have hb := B.bytes
  have hr := B.returns
  have hts := atoms_spec (ws := wsX6_passFault) B.pre
  have hown : s.vm.findClass RX6 = some m.cls := findClass_of_methodNamed B.named
  have hlocks := B.notSynchronized
  have hin : ∀ w ∈ wsX60, w ∈ wsX6_passFault := by decide +kernel
  have hI : mI dd g q A s.heap s.heap [] M := ⟨hP0, va_S.rf⟩
  have hl := lv_entry ([.ref (q 0), .int d]) (n := 2) (Nat.le_of_ble_eq_true rfl)
  rw [lg_entry_eq]
  generalize (lg_sl ([.ref (q 0), .int d]) ++ List.replicate (2 - (lg_sl ([.ref (q 0), .int d])).length) Slot.unset).toArray = ls at hl ⊢
  have hl : lv_has ls 2 [(0, .ref (q 0)), (1, .int d)] := hl
  refine lv_iload_n hx hb dX6_passFault_0 rfl (lv_at hl 1 rfl) ?_
  refine lv_iconst (v := 1) hx hb dX6_passFault_1 (by decide) ?_
  refine lv_bipush (v := 99) hx hb dX6_passFault_2 (by decide) ?_
  refine m_calls (As := [.int d, .int 1, .int 99]) (rest := []) hx hb hml hown hts hI (k_X6_in l d 1 99) (va_cwS 3 hts gX6_passFault_X6_in rfl rfl rfl (by decide +kernel) ⟨Nat.le_of_ble_eq_true rfl, Nat.le_of_ble_eq_true rfl⟩) rfl hl (Nat.le_of_ble_eq_true rfl) ⟨Nat.zero_le _, Nat.zero_le _⟩ dX6_passFault_4 rfl (fun r H locs h2 hI => ?_)
  rcases h2 with ⟨b1, rfl⟩ | ⟨b1, rfl⟩
  · skip
    refine lv_if_ne (tgt := 15) hx hb dX6_passFault_7 (by decide) (fun _ => ?_) (fun c3 => absurd c3 (by decide))
    refine lv_aload_n hx hb dX6_passFault_15 rfl (lv_at hl 0 rfl) ?_
    refine m_get hx hb hts hin hown hK hI 0 (by decide) (hts (.fieldLink RX6 7 "WinderLaddersModel" "s" "[I") (by decide +kernel)) (v := .ref (q 1)) rfl dX6_passFault_16 ?_
    refine lv_iconst (v := 4) hx hb dX6_passFault_19 (by decide) ?_
    refine m_ald hx hb hK hI 0 (by decide) (4) (by show _ < 140; omega) rfl (v := M 0 4) rfl dX6_passFault_20 ?_
    refine lv_iload_n hx hb dX6_passFault_21 rfl (lv_at hl 1 rfl) ?_
    refine lv_iadd hx hb dX6_passFault_22 ?_
    refine lv_sipush (v := 9999) hx hb dX6_passFault_23 (by decide) ?_
    refine lv_icmp_le (tgt := 34) hx hb dX6_passFault_26 (by decide) (fun c4 => ?_) (fun c4 => ?_)
    · skip
      refine lv_iconst (v := 0) hx hb dX6_passFault_34 (by decide) ?_
      exact m_iret (v := 0) hx hb hr hI (⟨by simp [passR, -Int32.not_le, b1, c4], rfl⟩) dX6_passFault_35 hlocks
    · skip
      refine lv_bipush (v := (-5)) hx hb dX6_passFault_29 (by decide) ?_
      refine lv_goto (tgt := 35) hx hb dX6_passFault_31 (by decide) ?_
      exact m_iret (v := (-5)) hx hb hr hI (⟨by simp [passR, -Int32.not_le, b1, c4], rfl⟩) dX6_passFault_35 hlocks
  · skip
    refine lv_if_ne (tgt := 15) hx hb dX6_passFault_7 (by decide) (fun c5 => absurd (by decide) c5) (fun _ => ?_)
    refine lv_bipush (v := (-2)) hx hb dX6_passFault_10 (by decide) ?_
    refine lv_goto (tgt := 35) hx hb dX6_passFault_12 (by decide) ?_
    exact m_iret (v := (-2)) hx hb hr hI (⟨by simp [passR, -Int32.not_le, b1], rfl⟩) dX6_passFault_35 hlocks

set_option maxHeartbeats 4000000 in
set_option maxRecDepth 100000 in
theorem k_X6_hangs (l : Launch) (dd : va_G) (g : Nat → ClassId) (q : Nat → Nat) (A : Nat → Prop) (hA : mA A q) (M : MS) (h u d : Int32) (hn : cn (M 0) < 16) (hW : Wk (M 0)) : Met l yX6_hangs wsX6_hangs ({ frames := 1, cells := 0, slots := 0, locals := 21 }) (mPre dd g q M [.ref (q 0), .int h, .int u, .int d]) (mQi dd g q A (fun r M' => r = nI (cn (M 0)) ∧ M' = ms0 M (newC (M 0) (cn (M 0)) h u d))) 0 0 A := by
  refine Met.ofW (cc := cX6_hangs) (maxL := 6) (ret := (some .int)) (by decide) rfl ?_
  intro p e s m args below meth c s₁ B hml hv
  obtain ⟨rfl, hP0, hK⟩ := hv
  have hx := B.exec
  have hb := B.bytes
  have hr := B.returns
  have hts := atoms_spec (ws := wsX6_hangs) B.pre
  have hown : s.vm.findClass RX6 = some m.cls := findClass_of_methodNamed B.named
  have hlocks := B.notSynchronized
  have hin : ∀ w ∈ wsX60, w ∈ wsX6_hangs := by decide +kernel
  have hI : mI dd g q A s.heap s.heap [] M := ⟨hP0, va_S.rf⟩
  have hl := lv_entry ([.ref (q 0), .int h, .int u, .int d]) (n := 6) (Nat.le_of_ble_eq_true rfl)
  rw [lg_entry_eq]
  generalize (lg_sl ([.ref (q 0), .int h, .int u, .int d]) ++ List.replicate (6 - (lg_sl ([.ref (q 0), .int h, .int u, .int d])).length) Slot.unset).toArray = ls at hl ⊢
  have hl : lv_has ls 6 [(0, .ref (q 0)), (1, .int h), (2, .int u), (3, .int d)] := hl
  have hc16 := hW.2.1
  have hl4 := hW.2.2.2
  refine lv_aload_n hx hb dX6_hangs_0 rfl (lv_at hl 0 rfl) ?_
  refine m_get hx hb hts hin hown hK hI 0 (by decide) (hts (.fieldLink RX6 7 "WinderLaddersModel" "s" "[I") (by decide +kernel)) (v := .ref (q 1)) rfl dX6_hangs_1 ?_
  refine lv_iconst (v := 5) hx hb dX6_hangs_4 (by decide) ?_
  refine m_ald hx hb hK hI 0 (by decide) (5) (by show _ < 140; omega) rfl (v := nI (cn (M 0))) hW.1 dX6_hangs_5 ?_
  refine lv_istore (lv' := [(4, .int (nI (cn (M 0)))), (0, .ref (q 0)), (1, .int h), (2, .int u), (3, .int d)]) hx hb dX6_hangs_6 hl (by decide) rfl (fun ls hl => ?_)
  refine lv_iconst (v := 0) hx hb dX6_hangs_8 (by decide) ?_
  refine lv_istore (lv' := [(5, .int 0), (4, .int (nI (cn (M 0)))), (0, .ref (q 0)), (1, .int h), (2, .int u), (3, .int d)]) hx hb dX6_hangs_9 hl (by decide) rfl (fun ls hl => ?_)
  have L11 : ∀ (fuel : Nat) (k : Nat) (h1 : k ≤ 8) (h2 : 8 < fuel + k) (H : Heap) (locs : List Loc) (ls : Array Slot), mI dd g q A s.heap H locs (ms0 M (zr1 (M 0) (cn (M 0)) k)) → lv_has ls 6 [(5, .int (nI k)), (4, .int (nI (cn (M 0)))), (0, .ref (q 0)), (1, .int h), (2, .int u), (3, .int d)] → wk p l e wsX6_hangs { frames := 1, cells := 0, slots := 0, locals := 21 } s m [.ref (q 0), .int h, .int u, .int d] below meth c H locs (mQi dd g q A (fun r M' => r = nI (cn (M 0)) ∧ M' = ms0 M (newC (M 0) (cn (M 0)) h u d))) (A) (F0 m 11 ls []) := by
    intro fuel
    induction fuel with
    | zero =>
      intro k h1 h2 H locs ls hI hl
      exact absurd h2 (by omega)
    | succ fuel ih =>
      intro k h1 h2 H locs ls hI hl
      refine lv_iload hx hb dX6_hangs_11 (lv_at hl 0 rfl) ?_
      refine lv_bipush (v := 8) hx hb dX6_hangs_13 (by decide) ?_
      refine lv_icmp_ge (tgt := 37) hx hb dX6_hangs_15 (by decide) (fun c1 => ?_) (fun c1 => ?_)
      · skip
        have nc1 : 8 ≤ k := (nI_leI (a := 8) (b := k) (by omega) (by omega)).mp c1
        have ek : k = 8 := by omega
        refine lv_aload_n hx hb dX6_hangs_37 rfl (lv_at hl 2 rfl) ?_
        refine m_get hx hb hts hin hown hK hI 0 (by decide) (hts (.fieldLink RX6 7 "WinderLaddersModel" "s" "[I") (by decide +kernel)) (v := .ref (q 1)) rfl dX6_hangs_38 ?_
        refine lv_iload hx hb dX6_hangs_41 (lv_at hl 1 rfl) ?_
        refine lv_iconst (v := 0) hx hb dX6_hangs_43 (by decide) ?_
        refine m_calls (As := [.int (nI (cn (M 0))), .int 0]) (rest := [.ref (q 1)]) hx hb hml hown hts hI (k_X6_at l (cn (M 0)) (0)) (va_cwS 2 hts gX6_hangs_X6_at rfl rfl rfl (by decide +kernel) ⟨Nat.le_of_ble_eq_true rfl, Nat.le_of_ble_eq_true rfl⟩) rfl hl (Nat.le_of_ble_eq_true rfl) ⟨Nat.zero_le _, Nat.zero_le _⟩ dX6_hangs_44 rfl (fun r H locs h2 hI => ?_)
        subst h2
        refine lv_iload_n hx hb dX6_hangs_47 rfl (lv_at hl 3 rfl) ?_
        refine m_ast hx hb hK hA hI 0 (by decide) (12 + 8 * (cn (M 0)) + 0) (by show _ < 140; omega) rfl dX6_hangs_48 (fun H locs hI => ?_)
        refine lv_aload_n hx hb dX6_hangs_49 rfl (lv_at hl 2 rfl) ?_
        refine m_get hx hb hts hin hown hK hI 0 (by decide) (hts (.fieldLink RX6 7 "WinderLaddersModel" "s" "[I") (by decide +kernel)) (v := .ref (q 1)) rfl dX6_hangs_50 ?_
        refine lv_iload hx hb dX6_hangs_53 (lv_at hl 1 rfl) ?_
        refine lv_iconst (v := 1) hx hb dX6_hangs_55 (by decide) ?_
        refine m_calls (As := [.int (nI (cn (M 0))), .int 1]) (rest := [.ref (q 1)]) hx hb hml hown hts hI (k_X6_at l (cn (M 0)) (1)) (va_cwS 2 hts gX6_hangs_X6_at rfl rfl rfl (by decide +kernel) ⟨Nat.le_of_ble_eq_true rfl, Nat.le_of_ble_eq_true rfl⟩) rfl hl (Nat.le_of_ble_eq_true rfl) ⟨Nat.zero_le _, Nat.zero_le _⟩ dX6_hangs_56 rfl (fun r H locs h3 hI => ?_)
        subst h3
        refine lv_iload_n hx hb dX6_hangs_59 rfl (lv_at hl 4 rfl) ?_
        refine m_ast hx hb hK hA hI 0 (by decide) (12 + 8 * (cn (M 0)) + 1) (by show _ < 140; omega) rfl dX6_hangs_60 (fun H locs hI => ?_)
        refine lv_aload_n hx hb dX6_hangs_61 rfl (lv_at hl 2 rfl) ?_
        refine m_get hx hb hts hin hown hK hI 0 (by decide) (hts (.fieldLink RX6 7 "WinderLaddersModel" "s" "[I") (by decide +kernel)) (v := .ref (q 1)) rfl dX6_hangs_62 ?_
        refine lv_iload hx hb dX6_hangs_65 (lv_at hl 1 rfl) ?_
        refine lv_iconst (v := 2) hx hb dX6_hangs_67 (by decide) ?_
        refine m_calls (As := [.int (nI (cn (M 0))), .int 2]) (rest := [.ref (q 1)]) hx hb hml hown hts hI (k_X6_at l (cn (M 0)) (2)) (va_cwS 2 hts gX6_hangs_X6_at rfl rfl rfl (by decide +kernel) ⟨Nat.le_of_ble_eq_true rfl, Nat.le_of_ble_eq_true rfl⟩) rfl hl (Nat.le_of_ble_eq_true rfl) ⟨Nat.zero_le _, Nat.zero_le _⟩ dX6_hangs_68 rfl (fun r H locs h4 hI => ?_)
        subst h4
        refine lv_iload_n hx hb dX6_hangs_71 rfl (lv_at hl 5 rfl) ?_
        refine m_ast hx hb hK hA hI 0 (by decide) (12 + 8 * (cn (M 0)) + 2) (by show _ < 140; omega) rfl dX6_hangs_72 (fun H locs hI => ?_)
        refine lv_aload_n hx hb dX6_hangs_73 rfl (lv_at hl 2 rfl) ?_
        refine m_get hx hb hts hin hown hK hI 0 (by decide) (hts (.fieldLink RX6 7 "WinderLaddersModel" "s" "[I") (by decide +kernel)) (v := .ref (q 1)) rfl dX6_hangs_74 ?_
        refine lv_iload hx hb dX6_hangs_77 (lv_at hl 1 rfl) ?_
        refine lv_bipush (v := 6) hx hb dX6_hangs_79 (by decide) ?_
        refine m_calls (As := [.int (nI (cn (M 0))), .int 6]) (rest := [.ref (q 1)]) hx hb hml hown hts hI (k_X6_at l (cn (M 0)) (6)) (va_cwS 2 hts gX6_hangs_X6_at rfl rfl rfl (by decide +kernel) ⟨Nat.le_of_ble_eq_true rfl, Nat.le_of_ble_eq_true rfl⟩) rfl hl (Nat.le_of_ble_eq_true rfl) ⟨Nat.zero_le _, Nat.zero_le _⟩ dX6_hangs_81 rfl (fun r H locs h5 hI => ?_)
        subst h5
        refine lv_iconst (v := 1) hx hb dX6_hangs_84 (by decide) ?_
        refine m_ast hx hb hK hA hI 0 (by decide) (12 + 8 * (cn (M 0)) + 6) (by show _ < 140; omega) rfl dX6_hangs_85 (fun H locs hI => ?_)
        refine lv_aload_n hx hb dX6_hangs_86 rfl (lv_at hl 2 rfl) ?_
        refine m_get hx hb hts hin hown hK hI 0 (by decide) (hts (.fieldLink RX6 7 "WinderLaddersModel" "s" "[I") (by decide +kernel)) (v := .ref (q 1)) rfl dX6_hangs_87 ?_
        refine lv_iconst (v := 5) hx hb dX6_hangs_90 (by decide) ?_
        refine lv_dup2_11 hx hb dX6_hangs_91 rfl rfl ?_
        refine m_ald hx hb hK hI 0 (by decide) (5) (by show _ < 140; omega) rfl (v := nI (cn (M 0))) ((mset_nj _ (by omega) _ _).trans ((mset_nj _ (by omega) _ _).trans ((mset_nj _ (by omega) _ _).trans ((mset_nj _ (by omega) _ _).trans ((by rw [ms0_0]; simp only [zr1]; rw [if_neg (by omega)]; exact hW.1)))))) dX6_hangs_92 ?_
        refine lv_iconst (v := 1) hx hb dX6_hangs_93 (by decide) ?_
        refine lv_iadd hx hb dX6_hangs_94 ?_
        refine lv_re (y := nI (cn (M 0) + 1)) (nI_add (cn (M 0)) (1)) ?_
        refine m_ast hx hb hK hA hI 0 (by decide) (5) (by show _ < 140; omega) rfl dX6_hangs_95 (fun H locs hI => ?_)
        refine lv_iload hx hb dX6_hangs_96 (lv_at hl 1 rfl) ?_
        exact m_iret (v := nI (cn (M 0))) hx hb hr hI (⟨rfl, by subst ek; simp only [mset_0, ms0_0, ms0_ms0]; rfl⟩) dX6_hangs_98 hlocks
      · skip
        have nc1 : ¬ (8 ≤ k) := fun h => c1 ((nI_leI (a := 8) (b := k) (by omega) (by omega)).mpr h)
        refine lv_aload_n hx hb dX6_hangs_18 rfl (lv_at hl 2 rfl) ?_
        refine m_get hx hb hts hin hown hK hI 0 (by decide) (hts (.fieldLink RX6 7 "WinderLaddersModel" "s" "[I") (by decide +kernel)) (v := .ref (q 1)) rfl dX6_hangs_19 ?_
        refine lv_iload hx hb dX6_hangs_22 (lv_at hl 1 rfl) ?_
        refine lv_iload hx hb dX6_hangs_24 (lv_at hl 0 rfl) ?_
        refine m_calls (As := [.int (nI (cn (M 0))), .int (nI k)]) (rest := [.ref (q 1)]) hx hb hml hown hts hI (k_X6_at l (cn (M 0)) (k)) (va_cwS 2 hts gX6_hangs_X6_at rfl rfl rfl (by decide +kernel) ⟨Nat.le_of_ble_eq_true rfl, Nat.le_of_ble_eq_true rfl⟩) rfl hl (Nat.le_of_ble_eq_true rfl) ⟨Nat.zero_le _, Nat.zero_le _⟩ dX6_hangs_26 rfl (fun r H locs h6 hI => ?_)
        subst h6
        refine lv_iconst (v := 0) hx hb dX6_hangs_29 (by decide) ?_
        refine m_ast hx hb hK hA hI 0 (by decide) (12 + 8 * (cn (M 0)) + k) (by show _ < 140; omega) rfl dX6_hangs_30 (fun H locs hI => ?_)
        refine lv_iinc (v := nI (k + 1)) (lv' := [(5, .int (nI (k + 1))), (4, .int (nI (cn (M 0)))), (0, .ref (q 0)), (1, .int h), (2, .int u), (3, .int d)]) hx hb dX6_hangs_31 hl (k := 0) rfl (by rw [show Int32.ofInt 1 = nI 1 from rfl, nI_add]) (by decide) rfl (fun ls hl => ?_)
        refine lv_goto (tgt := 11) hx hb dX6_hangs_34 (by decide) ?_
        exact ih (k + 1) (by omega) (by omega) _ _ _ (by rw [mset_0, ms0_0, ms0_ms0, zr1_s] at hI; exact hI) (lv_sub hl [0, 1, 2, 3, 4, 5] rfl)
  exact L11 9 0 (by omega) (by omega) _ _ _ (by rw [zr1_0, ms0_self]; exact hI) (lv_sub hl [0, 1, 2, 3, 4, 5] rfl)

set_option maxHeartbeats 4000000 in
set_option maxRecDepth 100000 in
theorem k_X6_buys (l : Launch) (dd : va_G) (g : Nat → ClassId) (q : Nat → Nat) (A : Nat → Prop) (hA : mA A q) (M : MS) (u : Int32) (hn : ln (M 0) < 4) (hW : Wk (M 0)) : Met l yX6_buys wsX6_buys ({ frames := 0, cells := 0, slots := 0, locals := 0 }) (mPre dd g q M [.ref (q 0), .int u]) (mQi dd g q A (fun r M' => r = nI (ln (M 0)) ∧ M' = ms0 M (upd (upd (M 0) (8 + ln (M 0)) u) 6 (nI (ln (M 0) + 1))))) 0 0 A := by
  refine Met.ofW (cc := cX6_buys) (maxL := 2) (ret := (some .int)) (by decide) rfl ?_
  intro p e s m args below meth c s₁ B hml hv
  obtain ⟨rfl, hP0, hK⟩ := hv
  have hx := B.exec
  have hb := B.bytes
  have hr := B.returns
  have hts := atoms_spec (ws := wsX6_buys) B.pre
  have hown : s.vm.findClass RX6 = some m.cls := findClass_of_methodNamed B.named
  have hlocks := B.notSynchronized
  have hin : ∀ w ∈ wsX60, w ∈ wsX6_buys := by decide +kernel
  have hI : mI dd g q A s.heap s.heap [] M := ⟨hP0, va_S.rf⟩
  have hl := lv_entry ([.ref (q 0), .int u]) (n := 2) (Nat.le_of_ble_eq_true rfl)
  rw [lg_entry_eq]
  generalize (lg_sl ([.ref (q 0), .int u]) ++ List.replicate (2 - (lg_sl ([.ref (q 0), .int u])).length) Slot.unset).toArray = ls at hl ⊢
  have hl : lv_has ls 2 [(0, .ref (q 0)), (1, .int u)] := hl
  have hc16 := hW.2.1
  have hl4 := hW.2.2.2
  refine lv_aload_n hx hb dX6_buys_0 rfl (lv_at hl 0 rfl) ?_
  refine m_get hx hb hts hin hown hK hI 0 (by decide) (hts (.fieldLink RX6 7 "WinderLaddersModel" "s" "[I") (by decide +kernel)) (v := .ref (q 1)) rfl dX6_buys_1 ?_
  refine lv_bipush (v := 8) hx hb dX6_buys_4 (by decide) ?_
  refine lv_aload_n hx hb dX6_buys_6 rfl (lv_at hl 0 rfl) ?_
  refine m_get hx hb hts hin hown hK hI 0 (by decide) (hts (.fieldLink RX6 7 "WinderLaddersModel" "s" "[I") (by decide +kernel)) (v := .ref (q 1)) rfl dX6_buys_7 ?_
  refine lv_bipush (v := 6) hx hb dX6_buys_10 (by decide) ?_
  refine m_ald hx hb hK hI 0 (by decide) (6) (by show _ < 140; omega) rfl (v := nI (ln (M 0))) hW.2.2.1 dX6_buys_12 ?_
  refine lv_iadd hx hb dX6_buys_13 ?_
  refine lv_re (y := nI (8 + (ln (M 0)))) (nI_add (8) (ln (M 0))) ?_
  refine lv_iload_n hx hb dX6_buys_14 rfl (lv_at hl 1 rfl) ?_
  refine m_ast hx hb hK hA hI 0 (by decide) (8 + (ln (M 0))) (by show _ < 140; omega) rfl dX6_buys_15 (fun H locs hI => ?_)
  refine lv_aload_n hx hb dX6_buys_16 rfl (lv_at hl 0 rfl) ?_
  refine m_get hx hb hts hin hown hK hI 0 (by decide) (hts (.fieldLink RX6 7 "WinderLaddersModel" "s" "[I") (by decide +kernel)) (v := .ref (q 1)) rfl dX6_buys_17 ?_
  refine lv_bipush (v := 6) hx hb dX6_buys_20 (by decide) ?_
  refine lv_dup2_11 hx hb dX6_buys_22 rfl rfl ?_
  refine m_ald hx hb hK hI 0 (by decide) (6) (by show _ < 140; omega) rfl (v := nI (ln (M 0))) ((mset_nj _ (by omega) _ _).trans (hW.2.2.1)) dX6_buys_23 ?_
  refine lv_iconst (v := 1) hx hb dX6_buys_24 (by decide) ?_
  refine lv_iadd hx hb dX6_buys_25 ?_
  refine lv_re (y := nI (ln (M 0) + 1)) (nI_add (ln (M 0)) (1)) ?_
  refine m_ast hx hb hK hA hI 0 (by decide) (6) (by show _ < 140; omega) rfl dX6_buys_26 (fun H locs hI => ?_)
  refine lv_aload_n hx hb dX6_buys_27 rfl (lv_at hl 0 rfl) ?_
  refine m_get hx hb hts hin hown hK hI 0 (by decide) (hts (.fieldLink RX6 7 "WinderLaddersModel" "s" "[I") (by decide +kernel)) (v := .ref (q 1)) rfl dX6_buys_28 ?_
  refine lv_bipush (v := 6) hx hb dX6_buys_31 (by decide) ?_
  refine m_ald hx hb hK hI 0 (by decide) (6) (by show _ < 140; omega) rfl (v := nI (ln (M 0) + 1)) (mset_eq _ _ _ _) dX6_buys_33 ?_
  refine lv_iconst (v := 1) hx hb dX6_buys_34 (by decide) ?_
  refine lv_isub hx hb dX6_buys_35 ?_
  exact m_iret (v := (nI (ln (M 0) + 1)) - 1) hx hb hr hI (⟨pk_sub (a := ln (M 0) + 1) (b := 1) (by omega), by simp only [mset_0, ms0_0, ms0_ms0]⟩) dX6_buys_36 hlocks
end
section
set_option maxHeartbeats 4000000 in
set_option maxRecDepth 100000 in
theorem k_X6_know6 (l : Launch) (dd : va_G) (g : Nat → ClassId) (q : Nat → Nat) (A : Nat → Prop) (hA : mA A q) (M : MS) (hk : M 3 0 = 6) : Met l yX6_know wsX6_know ({ frames := 0, cells := 0, slots := 0, locals := 0 }) (mPre dd g q M [.ref (q 0)]) (mQv dd g q A (fun M' => M' = knM M 6)) 0 0 A := by
  refine Met.ofW (cc := cX6_know) (maxL := 2) (ret := none) (by decide) rfl ?_
  intro p e s m args below meth c s₁ B hml hv
  obtain ⟨rfl, hP0, hK⟩ := hv
  have hx := B.exec
  have hb := B.bytes
  have hr := B.returns
  have hts := atoms_spec (ws := wsX6_know) B.pre
  have hown : s.vm.findClass RX6 = some m.cls := findClass_of_methodNamed B.named
  have hlocks := B.notSynchronized
  have hin : ∀ w ∈ wsX60, w ∈ wsX6_know := by decide +kernel
  have hI : mI dd g q A s.heap s.heap [] M := ⟨hP0, va_S.rf⟩
  have hl := lv_entry ([.ref (q 0)]) (n := 2) (Nat.le_of_ble_eq_true rfl)
  rw [lg_entry_eq]
  generalize (lg_sl ([.ref (q 0)]) ++ List.replicate (2 - (lg_sl ([.ref (q 0)])).length) Slot.unset).toArray = ls at hl ⊢
  have hl : lv_has ls 2 [(0, .ref (q 0))] := hl
  refine lv_aload_n hx hb dX6_know_0 rfl (lv_at hl 0 rfl) ?_
  refine m_get hx hb hts hin hown hK hI 3 (by decide) (hts (.fieldLink RX6 39 "WinderLaddersModel" "known" "I") (by decide +kernel)) (v := .int 6) (congrArg (fun z => some (Value.int z)) hk) dX6_know_1 ?_
  refine lv_bipush (v := 6) hx hb dX6_know_4 (by decide) ?_
  refine lv_icmp_ne (tgt := 50) hx hb dX6_know_6 (by decide) (fun c1 => absurd (by decide) c1) (fun _ => ?_)
  refine lv_iconst (v := 0) hx hb dX6_know_9 (by decide) ?_
  refine lv_istore_n (lv' := [(1, .int 0), (0, .ref (q 0))]) hx hb dX6_know_10 rfl hl (by decide) rfl (fun ls hl => ?_)
  have L11 : ∀ (fuel : Nat) (k : Nat) (h1 : k ≤ 700) (h2 : 700 < fuel + k) (H : Heap) (locs : List Loc) (ls : Array Slot), mI dd g q A s.heap H locs (mrow M 2 (sh1 (M 2) k)) → lv_has ls 2 [(1, .int (nI k)), (0, .ref (q 0))] → wk p l e wsX6_know { frames := 0, cells := 0, slots := 0, locals := 0 } s m [.ref (q 0)] below meth c H locs (mQv dd g q A (fun M' => M' = knM M 6)) (A) (F0 m 11 ls []) := by
    intro fuel
    induction fuel with
    | zero =>
      intro k h1 h2 H locs ls hI hl
      exact absurd h2 (by omega)
    | succ fuel ih =>
      intro k h1 h2 H locs ls hI hl
      refine lv_iload_n hx hb dX6_know_11 rfl (lv_at hl 0 rfl) ?_
      refine lv_sipush (v := 700) hx hb dX6_know_12 (by decide) ?_
      refine lv_icmp_ge (tgt := 40) hx hb dX6_know_15 (by decide) (fun c2 => ?_) (fun c2 => ?_)
      · skip
        have nc2 : 700 ≤ k := (nI_leI (a := 700) (b := k) (by omega) (by omega)).mp c2
        refine lv_aload_n hx hb dX6_know_40 rfl (lv_at hl 1 rfl) ?_
        refine lv_dup hx hb dX6_know_41 rfl ?_
        refine m_get hx hb hts hin hown hK hI 3 (by decide) (hts (.fieldLink RX6 39 "WinderLaddersModel" "known" "I") (by decide +kernel)) (v := .int 6) (congrArg (fun z => some (Value.int z)) ((by rw [mrow_n _ (by decide)]; exact hk))) dX6_know_42 ?_
        refine lv_iconst (v := 1) hx hb dX6_know_45 (by decide) ?_
        refine lv_isub hx hb dX6_know_46 ?_
        refine lv_re (y := 5) (by decide) ?_
        refine m_put hx hb hts hin hown hK hA hI 3 (by decide) (hts (.fieldLink RX6 39 "WinderLaddersModel" "known" "I") (by decide +kernel)) (fun h => absurd h (by decide)) dX6_know_47 (fun H locs hI => ?_)
        refine lv_iconst (v := 0) hx hb dX6_know_50 (by decide) ?_
        refine lv_istore_n (lv' := [(1, .int 0), (0, .ref (q 0))]) hx hb dX6_know_51 rfl hl (by decide) rfl (fun ls hl => ?_)
        have L52 : ∀ (fuel2 : Nat) (k : Nat) (g1 : k ≤ 140) (g2 : 140 < fuel2 + k) (H : Heap) (locs : List Loc) (ls : Array Slot), mI dd g q A s.heap H locs (mset (mrow M 2 (cp1 (sh1 (M 2) 700) (M 0) (700) k)) 3 0 (5)) → lv_has ls 2 [(1, .int (nI k)), (0, .ref (q 0))] → wk p l e wsX6_know { frames := 0, cells := 0, slots := 0, locals := 0 } s m [.ref (q 0)] below meth c H locs (mQv dd g q A (fun M' => M' = knM M 6)) (A) (F0 m 52 ls []) := by
          intro fuel2
          induction fuel2 with
          | zero =>
            intro k g1 g2 H locs ls hI hl
            exact absurd g2 (by omega)
          | succ fuel2 ih2 =>
            intro k g1 g2 H locs ls hI hl
            refine lv_iload_n hx hb dX6_know_52 rfl (lv_at hl 0 rfl) ?_
            refine lv_sipush (v := 140) hx hb dX6_know_53 (by decide) ?_
            refine lv_icmp_ge (tgt := 86) hx hb dX6_know_56 (by decide) (fun c3 => ?_) (fun c3 => ?_)
            · skip
              have nc3 : 140 ≤ k := (nI_leI (a := 140) (b := k) (by omega) (by omega)).mp c3
              refine lv_aload_n hx hb dX6_know_86 rfl (lv_at hl 1 rfl) ?_
              refine lv_dup hx hb dX6_know_87 rfl ?_
              refine m_get hx hb hts hin hown hK hI 3 (by decide) (hts (.fieldLink RX6 39 "WinderLaddersModel" "known" "I") (by decide +kernel)) (v := .int 5) (congrArg (fun z => some (Value.int z)) ((by simp [mset]))) dX6_know_88 ?_
              refine lv_iconst (v := 1) hx hb dX6_know_91 (by decide) ?_
              refine lv_iadd hx hb dX6_know_92 ?_
              refine m_put hx hb hts hin hown hK hA hI 3 (by decide) (hts (.fieldLink RX6 39 "WinderLaddersModel" "known" "I") (by decide +kernel)) (fun h => absurd h (by decide)) dX6_know_93 (fun H locs hI => ?_)
              exact m_vret hx hb hr hI (by rw [mset_mset, show k = 140 by omega]; unfold knM knB knN; first | (simp only [if_true]; done) | (simp only [if_true]; rfl)) dX6_know_96 hlocks
            · skip
              have nc3 : ¬ (140 ≤ k) := fun h => c3 ((nI_leI (a := 140) (b := k) (by omega) (by omega)).mpr h)
              refine lv_aload_n hx hb dX6_know_59 rfl (lv_at hl 1 rfl) ?_
              refine m_get hx hb hts hin hown hK hI 2 (by decide) (hts (.fieldLink RX6 16 "WinderLaddersModel" "before" "[I") (by decide +kernel)) (v := .ref (q 3)) rfl dX6_know_60 ?_
              refine lv_sipush (v := 140) hx hb dX6_know_63 (by decide) ?_
              refine lv_aload_n hx hb dX6_know_66 rfl (lv_at hl 1 rfl) ?_
              refine m_get hx hb hts hin hown hK hI 3 (by decide) (hts (.fieldLink RX6 39 "WinderLaddersModel" "known" "I") (by decide +kernel)) (v := .int 5) (congrArg (fun z => some (Value.int z)) ((by simp [mset]))) dX6_know_67 ?_
              refine lv_imul hx hb dX6_know_70 ?_
              refine lv_re (y := 700) (by decide) ?_
              refine lv_iload_n hx hb dX6_know_71 rfl (lv_at hl 0 rfl) ?_
              refine lv_iadd hx hb dX6_know_72 ?_
              refine lv_re (y := nI (700 + k)) (nI_add (700) (k)) ?_
              refine lv_aload_n hx hb dX6_know_73 rfl (lv_at hl 1 rfl) ?_
              refine m_get hx hb hts hin hown hK hI 0 (by decide) (hts (.fieldLink RX6 7 "WinderLaddersModel" "s" "[I") (by decide +kernel)) (v := .ref (q 1)) rfl dX6_know_74 ?_
              refine lv_iload_n hx hb dX6_know_77 rfl (lv_at hl 0 rfl) ?_
              refine m_ald hx hb hK hI 0 (by decide) (k) (by show _ < 140; omega) rfl (v := M 0 k) ((by simp [mset, mrow])) dX6_know_78 ?_
              refine m_ast hx hb hK hA hI 2 (by decide) (700 + k) (by show _ < 840; omega) rfl dX6_know_79 (fun H locs hI => ?_)
              refine lv_iinc (v := nI (k + 1)) (lv' := [(1, .int (nI (k + 1))), (0, .ref (q 0))]) hx hb dX6_know_80 hl (k := 0) rfl (by rw [show Int32.ofInt 1 = nI 1 from rfl, nI_add]) (by decide) rfl (fun ls hl => ?_)
              refine lv_goto (tgt := 52) hx hb dX6_know_83 (by decide) ?_
              exact ih2 (k + 1) (by omega) (by omega) _ _ _ (by rw [mset_comm _ (by decide), mset_mrow_s, cp1_s] at hI; exact hI) (lv_sub hl [0, 1] rfl)
        exact L52 141 0 (by omega) (by omega) _ _ _ (by rw [cp1_0]; rw [show k = 700 by omega] at hI; exact hI) (lv_sub hl [0, 1] rfl)
      · skip
        have nc2 : ¬ (700 ≤ k) := fun h => c2 ((nI_leI (a := 700) (b := k) (by omega) (by omega)).mpr h)
        refine lv_aload_n hx hb dX6_know_18 rfl (lv_at hl 1 rfl) ?_
        refine m_get hx hb hts hin hown hK hI 2 (by decide) (hts (.fieldLink RX6 16 "WinderLaddersModel" "before" "[I") (by decide +kernel)) (v := .ref (q 3)) rfl dX6_know_19 ?_
        refine lv_iload_n hx hb dX6_know_22 rfl (lv_at hl 0 rfl) ?_
        refine lv_aload_n hx hb dX6_know_23 rfl (lv_at hl 1 rfl) ?_
        refine m_get hx hb hts hin hown hK hI 2 (by decide) (hts (.fieldLink RX6 16 "WinderLaddersModel" "before" "[I") (by decide +kernel)) (v := .ref (q 3)) rfl dX6_know_24 ?_
        refine lv_sipush (v := 140) hx hb dX6_know_27 (by decide) ?_
        refine lv_iload_n hx hb dX6_know_30 rfl (lv_at hl 0 rfl) ?_
        refine lv_iadd hx hb dX6_know_31 ?_
        refine lv_re (y := nI (140 + k)) (nI_add (140) (k)) ?_
        refine m_ald hx hb hK hI 2 (by decide) (140 + k) (by show _ < 840; omega) rfl (v := M 2 (140 + k)) ((by rw [mrow_s]; simp only [sh1]; rw [if_neg (by omega)])) dX6_know_32 ?_
        refine m_ast hx hb hK hA hI 2 (by decide) (k) (by show _ < 840; omega) rfl dX6_know_33 (fun H locs hI => ?_)
        refine lv_iinc (v := nI (k + 1)) (lv' := [(1, .int (nI (k + 1))), (0, .ref (q 0))]) hx hb dX6_know_34 hl (k := 0) rfl (by rw [show Int32.ofInt 1 = nI 1 from rfl, nI_add]) (by decide) rfl (fun ls hl => ?_)
        refine lv_goto (tgt := 11) hx hb dX6_know_37 (by decide) ?_
        exact ih (k + 1) (by omega) (by omega) _ _ _ (by rw [mset_mrow_s, sh1_s] at hI; exact hI) (lv_sub hl [0, 1] rfl)
  exact L11 701 0 (by omega) (by omega) _ _ _ (by rw [sh1_0, mrow_self]; exact hI) (lv_sub hl [0, 1] rfl)

set_option maxHeartbeats 4000000 in
set_option maxRecDepth 100000 in
theorem k_X6_knowL (l : Launch) (dd : va_G) (g : Nat → ClassId) (q : Nat → Nat) (A : Nat → Prop) (hA : mA A q) (M : MS) (kn : Nat) (hkn : kn < 6) (hk : M 3 0 = nI kn) : Met l yX6_know wsX6_know ({ frames := 0, cells := 0, slots := 0, locals := 0 }) (mPre dd g q M [.ref (q 0)]) (mQv dd g q A (fun M' => M' = knM M kn)) 0 0 A := by
  refine Met.ofW (cc := cX6_know) (maxL := 2) (ret := none) (by decide) rfl ?_
  intro p e s m args below meth c s₁ B hml hv
  obtain ⟨rfl, hP0, hK⟩ := hv
  have hx := B.exec
  have hb := B.bytes
  have hr := B.returns
  have hts := atoms_spec (ws := wsX6_know) B.pre
  have hown : s.vm.findClass RX6 = some m.cls := findClass_of_methodNamed B.named
  have hlocks := B.notSynchronized
  have hin : ∀ w ∈ wsX60, w ∈ wsX6_know := by decide +kernel
  have hI : mI dd g q A s.heap s.heap [] M := ⟨hP0, va_S.rf⟩
  have hl := lv_entry ([.ref (q 0)]) (n := 2) (Nat.le_of_ble_eq_true rfl)
  rw [lg_entry_eq]
  generalize (lg_sl ([.ref (q 0)]) ++ List.replicate (2 - (lg_sl ([.ref (q 0)])).length) Slot.unset).toArray = ls at hl ⊢
  have hl : lv_has ls 2 [(0, .ref (q 0))] := hl
  refine lv_aload_n hx hb dX6_know_0 rfl (lv_at hl 0 rfl) ?_
  refine m_get hx hb hts hin hown hK hI 3 (by decide) (hts (.fieldLink RX6 39 "WinderLaddersModel" "known" "I") (by decide +kernel)) (v := .int (nI kn)) (congrArg (fun z => some (Value.int z)) hk) dX6_know_1 ?_
  refine lv_bipush (v := 6) hx hb dX6_know_4 (by decide) ?_
  refine lv_icmp_ne (tgt := 50) hx hb dX6_know_6 (by decide) (fun c1 => ?_) (fun c1 => ?_)
  · skip
    have nc1 : ¬ (kn = 6) := fun h => c1 ((nI_eq (a := kn) (b := 6) (by omega) (by omega)).mpr h)
    refine lv_iconst (v := 0) hx hb dX6_know_50 (by decide) ?_
    refine lv_istore_n (lv' := [(1, .int 0), (0, .ref (q 0))]) hx hb dX6_know_51 rfl hl (by decide) rfl (fun ls hl => ?_)
    have L52 : ∀ (fuel2 : Nat) (k : Nat) (g1 : k ≤ 140) (g2 : 140 < fuel2 + k) (H : Heap) (locs : List Loc) (ls : Array Slot), mI dd g q A s.heap H locs (mset (mrow M 2 (cp1 (M 2) (M 0) (140 * kn) k)) 3 0 (nI kn)) → lv_has ls 2 [(1, .int (nI k)), (0, .ref (q 0))] → wk p l e wsX6_know { frames := 0, cells := 0, slots := 0, locals := 0 } s m [.ref (q 0)] below meth c H locs (mQv dd g q A (fun M' => M' = knM M kn)) (A) (F0 m 52 ls []) := by
      intro fuel2
      induction fuel2 with
      | zero =>
        intro k g1 g2 H locs ls hI hl
        exact absurd g2 (by omega)
      | succ fuel2 ih2 =>
        intro k g1 g2 H locs ls hI hl
        refine lv_iload_n hx hb dX6_know_52 rfl (lv_at hl 0 rfl) ?_
        refine lv_sipush (v := 140) hx hb dX6_know_53 (by decide) ?_
        refine lv_icmp_ge (tgt := 86) hx hb dX6_know_56 (by decide) (fun c2 => ?_) (fun c2 => ?_)
        · skip
          have nc2 : 140 ≤ k := (nI_leI (a := 140) (b := k) (by omega) (by omega)).mp c2
          refine lv_aload_n hx hb dX6_know_86 rfl (lv_at hl 1 rfl) ?_
          refine lv_dup hx hb dX6_know_87 rfl ?_
          refine m_get hx hb hts hin hown hK hI 3 (by decide) (hts (.fieldLink RX6 39 "WinderLaddersModel" "known" "I") (by decide +kernel)) (v := .int (nI kn)) (congrArg (fun z => some (Value.int z)) ((by simp [mset]))) dX6_know_88 ?_
          refine lv_iconst (v := 1) hx hb dX6_know_91 (by decide) ?_
          refine lv_iadd hx hb dX6_know_92 ?_
          refine lv_re (y := nI (kn + 1)) (nI_add (kn) (1)) ?_
          refine m_put hx hb hts hin hown hK hA hI 3 (by decide) (hts (.fieldLink RX6 39 "WinderLaddersModel" "known" "I") (by decide +kernel)) (fun h => absurd h (by decide)) dX6_know_93 (fun H locs hI => ?_)
          exact m_vret hx hb hr hI (by rw [mset_mset, show k = 140 by omega]; unfold knM knB knN; first | (simp only [if_neg (show ¬ kn = 6 by omega)]; done) | (simp only [if_true]; rfl)) dX6_know_96 hlocks
        · skip
          have nc2 : ¬ (140 ≤ k) := fun h => c2 ((nI_leI (a := 140) (b := k) (by omega) (by omega)).mpr h)
          refine lv_aload_n hx hb dX6_know_59 rfl (lv_at hl 1 rfl) ?_
          refine m_get hx hb hts hin hown hK hI 2 (by decide) (hts (.fieldLink RX6 16 "WinderLaddersModel" "before" "[I") (by decide +kernel)) (v := .ref (q 3)) rfl dX6_know_60 ?_
          refine lv_sipush (v := 140) hx hb dX6_know_63 (by decide) ?_
          refine lv_aload_n hx hb dX6_know_66 rfl (lv_at hl 1 rfl) ?_
          refine m_get hx hb hts hin hown hK hI 3 (by decide) (hts (.fieldLink RX6 39 "WinderLaddersModel" "known" "I") (by decide +kernel)) (v := .int (nI kn)) (congrArg (fun z => some (Value.int z)) ((by simp [mset]))) dX6_know_67 ?_
          refine lv_imul hx hb dX6_know_70 ?_
          refine lv_re (y := nI (140 * kn)) (pk_mul 140 kn) ?_
          refine lv_iload_n hx hb dX6_know_71 rfl (lv_at hl 0 rfl) ?_
          refine lv_iadd hx hb dX6_know_72 ?_
          refine lv_re (y := nI (140 * kn + k)) (nI_add (140 * kn) (k)) ?_
          refine lv_aload_n hx hb dX6_know_73 rfl (lv_at hl 1 rfl) ?_
          refine m_get hx hb hts hin hown hK hI 0 (by decide) (hts (.fieldLink RX6 7 "WinderLaddersModel" "s" "[I") (by decide +kernel)) (v := .ref (q 1)) rfl dX6_know_74 ?_
          refine lv_iload_n hx hb dX6_know_77 rfl (lv_at hl 0 rfl) ?_
          refine m_ald hx hb hK hI 0 (by decide) (k) (by show _ < 140; omega) rfl (v := M 0 k) ((by simp [mset, mrow])) dX6_know_78 ?_
          refine m_ast hx hb hK hA hI 2 (by decide) (140 * kn + k) (by show _ < 840; omega) rfl dX6_know_79 (fun H locs hI => ?_)
          refine lv_iinc (v := nI (k + 1)) (lv' := [(1, .int (nI (k + 1))), (0, .ref (q 0))]) hx hb dX6_know_80 hl (k := 0) rfl (by rw [show Int32.ofInt 1 = nI 1 from rfl, nI_add]) (by decide) rfl (fun ls hl => ?_)
          refine lv_goto (tgt := 52) hx hb dX6_know_83 (by decide) ?_
          exact ih2 (k + 1) (by omega) (by omega) _ _ _ (by rw [mset_comm _ (by decide), mset_mrow_s, cp1_s] at hI; exact hI) (lv_sub hl [0, 1] rfl)
    exact L52 141 0 (by omega) (by omega) _ _ _ (by rw [cp1_0, mrow_self, show mset M 3 0 (nI kn) = M from by rw [← hk, mset_mrow, show upd (M 3) 0 (M 3 0) = M 3 from upd_id _ _, mrow_self]]; exact hI) (lv_sub hl [0, 1] rfl)
  · skip
    have nc1 : kn = 6 := (nI_eq (a := kn) (b := 6) (by omega) (by omega)).mp c1
    exact absurd (((nI_eq (a := kn) (b := 6) (by omega) (by omega)).mp c1)) (by omega)

theorem k_X6_know (l : Launch) (dd : va_G) (g : Nat → ClassId) (q : Nat → Nat) (A : Nat → Prop) (hA : mA A q) (M : MS) (kn : Nat) (hkn : kn ≤ 6) (hk : M 3 0 = nI kn) : Met l yX6_know wsX6_know ({ frames := 0, cells := 0, slots := 0, locals := 0 }) (mPre dd g q M [.ref (q 0)]) (mQv dd g q A (fun M' => M' = knM M kn)) 0 0 A := by
  by_cases h : kn = 6
  · subst h; exact k_X6_know6 l dd g q A hA M hk
  · exact k_X6_knowL l dd g q A hA M kn (by omega) hk
end
section
theorem zz_last : True := trivial
end
