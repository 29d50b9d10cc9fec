section
-- ===== PART A: goes FIRST, ahead of the names: the tables' words, and 'selects' of the private methods out of them =====
/-- a private method of a class that the tables say can be made, by its rows of tables_1 -/
def lw_okq (q : MethodName × Nat) : Prop := (q.1.cls ≠ "java/lang/invoke/MethodHandle" ∧ q.1.cls ≠ "java/lang/invoke/VarHandle") ∧ Cond.instantiable q.1.cls q.2 ∈ tables_1 ∧ Cond.privateMethod q.1 ∈ tables_1 ∧ Cond.instanceMethod q.1 ∈ tables_1
theorem lw_p0 : lw_okq (⟨"WinderLadders", "keptIfDone", "(I)I"⟩, 7) := ⟨⟨by decide +kernel, by decide +kernel⟩, List.mem_of_getElem? (i := 11) (by decide +kernel), List.mem_of_getElem? (i := 214) (by decide +kernel), List.mem_of_getElem? (i := 215) (by decide +kernel)⟩
theorem lw_p1 : lw_okq (⟨"WinderLadders$History", "dropOldest", "()V"⟩, 2) := ⟨⟨by decide +kernel, by decide +kernel⟩, List.mem_of_getElem? (i := 106) (by decide +kernel), List.mem_of_getElem? (i := 222) (by decide +kernel), List.mem_of_getElem? (i := 223) (by decide +kernel)⟩
theorem lw_p2 : lw_okq (⟨"WinderLadders", "chooseRow", "(I)I"⟩, 7) := ⟨⟨by decide +kernel, by decide +kernel⟩, List.mem_of_getElem? (i := 11) (by decide +kernel), List.mem_of_getElem? (i := 262) (by decide +kernel), List.mem_of_getElem? (i := 263) (by decide +kernel)⟩
theorem lw_p3 : lw_okq (⟨"WinderLadders$Pad", "take", "(C)Z"⟩, 5) := ⟨⟨by decide +kernel, by decide +kernel⟩, List.mem_of_getElem? (i := 123) (by decide +kernel), List.mem_of_getElem? (i := 461) (by decide +kernel), List.mem_of_getElem? (i := 462) (by decide +kernel)⟩
theorem lw_p4 : lw_okq (⟨"WinderLadders$Pad", "here", "()C"⟩, 5) := ⟨⟨by decide +kernel, by decide +kernel⟩, List.mem_of_getElem? (i := 123) (by decide +kernel), List.mem_of_getElem? (i := 465) (by decide +kernel), List.mem_of_getElem? (i := 466) (by decide +kernel)⟩
theorem lw_p5 : lw_okq (⟨"WinderLadders$Pad", "readNumber", "(I)Z"⟩, 5) := ⟨⟨by decide +kernel, by decide +kernel⟩, List.mem_of_getElem? (i := 123) (by decide +kernel), List.mem_of_getElem? (i := 470) (by decide +kernel), List.mem_of_getElem? (i := 471) (by decide +kernel)⟩
theorem lw_p6 : lw_okq (⟨"WinderLadders$Pad", "readValue", "()Z"⟩, 5) := ⟨⟨by decide +kernel, by decide +kernel⟩, List.mem_of_getElem? (i := 123) (by decide +kernel), List.mem_of_getElem? (i := 478) (by decide +kernel), List.mem_of_getElem? (i := 479) (by decide +kernel)⟩
theorem lw_p7 : lw_okq (⟨"WinderLadders$Pad", "readNumbers", "()Z"⟩, 5) := ⟨⟨by decide +kernel, by decide +kernel⟩, List.mem_of_getElem? (i := 123) (by decide +kernel), List.mem_of_getElem? (i := 482) (by decide +kernel), List.mem_of_getElem? (i := 483) (by decide +kernel)⟩
theorem lw_p8 : lw_okq (⟨"WinderLadders", "carryOrdersOut", "()I"⟩, 7) := ⟨⟨by decide +kernel, by decide +kernel⟩, List.mem_of_getElem? (i := 11) (by decide +kernel), List.mem_of_getElem? (i := 490) (by decide +kernel), List.mem_of_getElem? (i := 491) (by decide +kernel)⟩
theorem lw_p9 : lw_okq (⟨"WinderLadders", "carryOneOut", "()I"⟩, 7) := ⟨⟨by decide +kernel, by decide +kernel⟩, List.mem_of_getElem? (i := 11) (by decide +kernel), List.mem_of_getElem? (i := 496) (by decide +kernel), List.mem_of_getElem? (i := 497) (by decide +kernel)⟩
theorem lw_p10 : lw_okq (⟨"WinderLaddersModel", "know", "()V"⟩, 17) := ⟨⟨by decide +kernel, by decide +kernel⟩, List.mem_of_getElem? (i := 518) (by decide +kernel), List.mem_of_getElem? (i := 583) (by decide +kernel), List.mem_of_getElem? (i := 584) (by decide +kernel)⟩
theorem lw_p11 : lw_okq (⟨"WinderLaddersModel", "hangFault", "(III)I"⟩, 17) := ⟨⟨by decide +kernel, by decide +kernel⟩, List.mem_of_getElem? (i := 518) (by decide +kernel), List.mem_of_getElem? (i := 591) (by decide +kernel), List.mem_of_getElem? (i := 592) (by decide +kernel)⟩
theorem lw_p12 : lw_okq (⟨"WinderLaddersModel", "hangs", "(III)I"⟩, 17) := ⟨⟨by decide +kernel, by decide +kernel⟩, List.mem_of_getElem? (i := 518) (by decide +kernel), List.mem_of_getElem? (i := 595) (by decide +kernel), List.mem_of_getElem? (i := 596) (by decide +kernel)⟩
theorem lw_p13 : lw_okq (⟨"WinderLaddersModel", "ladderFault", "(I)I"⟩, 17) := ⟨⟨by decide +kernel, by decide +kernel⟩, List.mem_of_getElem? (i := 518) (by decide +kernel), List.mem_of_getElem? (i := 606) (by decide +kernel), List.mem_of_getElem? (i := 607) (by decide +kernel)⟩
theorem lw_p14 : lw_okq (⟨"WinderLaddersModel", "buys", "(I)I"⟩, 17) := ⟨⟨by decide +kernel, by decide +kernel⟩, List.mem_of_getElem? (i := 518) (by decide +kernel), List.mem_of_getElem? (i := 610) (by decide +kernel), List.mem_of_getElem? (i := 611) (by decide +kernel)⟩
theorem lw_p15 : lw_okq (⟨"WinderLaddersModel", "isClock", "(I)Z"⟩, 17) := ⟨⟨by decide +kernel, by decide +kernel⟩, List.mem_of_getElem? (i := 518) (by decide +kernel), List.mem_of_getElem? (i := 618) (by decide +kernel), List.mem_of_getElem? (i := 619) (by decide +kernel)⟩
def lw_privs_1 : List (MethodName × Nat) := [(⟨"WinderLadders", "keptIfDone", "(I)I"⟩, 7), (⟨"WinderLadders$History", "dropOldest", "()V"⟩, 2), (⟨"WinderLadders", "chooseRow", "(I)I"⟩, 7), (⟨"WinderLadders$Pad", "take", "(C)Z"⟩, 5), (⟨"WinderLadders$Pad", "here", "()C"⟩, 5), (⟨"WinderLadders$Pad", "readNumber", "(I)Z"⟩, 5), (⟨"WinderLadders$Pad", "readValue", "()Z"⟩, 5), (⟨"WinderLadders$Pad", "readNumbers", "()Z"⟩, 5), (⟨"WinderLadders", "carryOrdersOut", "()I"⟩, 7), (⟨"WinderLadders", "carryOneOut", "()I"⟩, 7), (⟨"WinderLaddersModel", "know", "()V"⟩, 17), (⟨"WinderLaddersModel", "hangFault", "(III)I"⟩, 17), (⟨"WinderLaddersModel", "hangs", "(III)I"⟩, 17), (⟨"WinderLaddersModel", "ladderFault", "(I)I"⟩, 17), (⟨"WinderLaddersModel", "buys", "(I)I"⟩, 17), (⟨"WinderLaddersModel", "isClock", "(I)Z"⟩, 17)]
theorem lw_r1 : ∀ q ∈ lw_privs_1, lw_okq q := List.forall_mem_cons.mpr ⟨lw_p0, List.forall_mem_cons.mpr ⟨lw_p1, List.forall_mem_cons.mpr ⟨lw_p2, List.forall_mem_cons.mpr ⟨lw_p3, List.forall_mem_cons.mpr ⟨lw_p4, List.forall_mem_cons.mpr ⟨lw_p5, List.forall_mem_cons.mpr ⟨lw_p6, List.forall_mem_cons.mpr ⟨lw_p7, List.forall_mem_cons.mpr ⟨lw_p8, List.forall_mem_cons.mpr ⟨lw_p9, List.forall_mem_cons.mpr ⟨lw_p10, List.forall_mem_cons.mpr ⟨lw_p11, List.forall_mem_cons.mpr ⟨lw_p12, List.forall_mem_cons.mpr ⟨lw_p13, List.forall_mem_cons.mpr ⟨lw_p14, List.forall_mem_cons.mpr ⟨lw_p15, fun _ h => absurd h List.not_mem_nil⟩⟩⟩⟩⟩⟩⟩⟩⟩⟩⟩⟩⟩⟩⟩⟩
theorem lw_p16 : lw_okq (⟨"WinderLaddersModel", "layOut", "(IZ)I"⟩, 17) := ⟨⟨by decide +kernel, by decide +kernel⟩, List.mem_of_getElem? (i := 518) (by decide +kernel), List.mem_of_getElem? (i := 626) (by decide +kernel), List.mem_of_getElem? (i := 627) (by decide +kernel)⟩
theorem lw_p17 : lw_okq (⟨"WinderLaddersModel", "goes", "()I"⟩, 17) := ⟨⟨by decide +kernel, by decide +kernel⟩, List.mem_of_getElem? (i := 518) (by decide +kernel), List.mem_of_getElem? (i := 630) (by decide +kernel), List.mem_of_getElem? (i := 631) (by decide +kernel)⟩
theorem lw_p18 : lw_okq (⟨"WinderLaddersModel", "minutes", "()I"⟩, 17) := ⟨⟨by decide +kernel, by decide +kernel⟩, List.mem_of_getElem? (i := 518) (by decide +kernel), List.mem_of_getElem? (i := 634) (by decide +kernel), List.mem_of_getElem? (i := 635) (by decide +kernel)⟩
theorem lw_p19 : lw_okq (⟨"WinderLaddersModel", "ladderOf", "(I)I"⟩, 17) := ⟨⟨by decide +kernel, by decide +kernel⟩, List.mem_of_getElem? (i := 518) (by decide +kernel), List.mem_of_getElem? (i := 638) (by decide +kernel), List.mem_of_getElem? (i := 639) (by decide +kernel)⟩
theorem lw_p20 : lw_okq (⟨"WinderLaddersModel", "way", "(II)I"⟩, 17) := ⟨⟨by decide +kernel, by decide +kernel⟩, List.mem_of_getElem? (i := 518) (by decide +kernel), List.mem_of_getElem? (i := 642) (by decide +kernel), List.mem_of_getElem? (i := 643) (by decide +kernel)⟩
theorem lw_p21 : lw_okq (⟨"WinderLaddersModel", "canWind", "(I)Z"⟩, 17) := ⟨⟨by decide +kernel, by decide +kernel⟩, List.mem_of_getElem? (i := 518) (by decide +kernel), List.mem_of_getElem? (i := 649) (by decide +kernel), List.mem_of_getElem? (i := 650) (by decide +kernel)⟩
theorem lw_p22 : lw_okq (⟨"WinderLaddersModel", "work", "(I)V"⟩, 17) := ⟨⟨by decide +kernel, by decide +kernel⟩, List.mem_of_getElem? (i := 518) (by decide +kernel), List.mem_of_getElem? (i := 653) (by decide +kernel), List.mem_of_getElem? (i := 654) (by decide +kernel)⟩
theorem lw_p23 : lw_okq (⟨"WinderLaddersModel", "rate", "(I)I"⟩, 17) := ⟨⟨by decide +kernel, by decide +kernel⟩, List.mem_of_getElem? (i := 518) (by decide +kernel), List.mem_of_getElem? (i := 657) (by decide +kernel), List.mem_of_getElem? (i := 658) (by decide +kernel)⟩
theorem lw_p24 : lw_okq (⟨"WinderLaddersModel", "passFault", "(I)I"⟩, 17) := ⟨⟨by decide +kernel, by decide +kernel⟩, List.mem_of_getElem? (i := 518) (by decide +kernel), List.mem_of_getElem? (i := 665) (by decide +kernel), List.mem_of_getElem? (i := 666) (by decide +kernel)⟩
theorem lw_p25 : lw_okq (⟨"WinderLaddersModel", "passes", "(I)I"⟩, 17) := ⟨⟨by decide +kernel, by decide +kernel⟩, List.mem_of_getElem? (i := 518) (by decide +kernel), List.mem_of_getElem? (i := 669) (by decide +kernel), List.mem_of_getElem? (i := 670) (by decide +kernel)⟩
theorem lw_p26 : lw_okq (⟨"WinderLaddersModel", "day", "(I)V"⟩, 17) := ⟨⟨by decide +kernel, by decide +kernel⟩, List.mem_of_getElem? (i := 518) (by decide +kernel), List.mem_of_getElem? (i := 673) (by decide +kernel), List.mem_of_getElem? (i := 674) (by decide +kernel)⟩
theorem lw_p27 : lw_okq (⟨"WinderLaddersModel", "still", "()I"⟩, 17) := ⟨⟨by decide +kernel, by decide +kernel⟩, List.mem_of_getElem? (i := 518) (by decide +kernel), List.mem_of_getElem? (i := 678) (by decide +kernel), List.mem_of_getElem? (i := 679) (by decide +kernel)⟩
theorem lw_p28 : lw_okq (⟨"WinderLaddersModel", "changes", "(I)I"⟩, 17) := ⟨⟨by decide +kernel, by decide +kernel⟩, List.mem_of_getElem? (i := 518) (by decide +kernel), List.mem_of_getElem? (i := 689) (by decide +kernel), List.mem_of_getElem? (i := 690) (by decide +kernel)⟩
theorem lw_p29 : lw_okq (⟨"WinderLaddersModel", "isOff", "(I)Z"⟩, 17) := ⟨⟨by decide +kernel, by decide +kernel⟩, List.mem_of_getElem? (i := 518) (by decide +kernel), List.mem_of_getElem? (i := 698) (by decide +kernel), List.mem_of_getElem? (i := 699) (by decide +kernel)⟩
theorem lw_p30 : lw_okq (⟨"WinderLaddersModel", "sum", "(I)I"⟩, 17) := ⟨⟨by decide +kernel, by decide +kernel⟩, List.mem_of_getElem? (i := 518) (by decide +kernel), List.mem_of_getElem? (i := 710) (by decide +kernel), List.mem_of_getElem? (i := 711) (by decide +kernel)⟩
theorem lw_p31 : lw_okq (⟨"WinderLaddersModel", "keepClock", "(I)V"⟩, 17) := ⟨⟨by decide +kernel, by decide +kernel⟩, List.mem_of_getElem? (i := 518) (by decide +kernel), List.mem_of_getElem? (i := 722) (by decide +kernel), List.mem_of_getElem? (i := 723) (by decide +kernel)⟩
def lw_privs_2 : List (MethodName × Nat) := [(⟨"WinderLaddersModel", "layOut", "(IZ)I"⟩, 17), (⟨"WinderLaddersModel", "goes", "()I"⟩, 17), (⟨"WinderLaddersModel", "minutes", "()I"⟩, 17), (⟨"WinderLaddersModel", "ladderOf", "(I)I"⟩, 17), (⟨"WinderLaddersModel", "way", "(II)I"⟩, 17), (⟨"WinderLaddersModel", "canWind", "(I)Z"⟩, 17), (⟨"WinderLaddersModel", "work", "(I)V"⟩, 17), (⟨"WinderLaddersModel", "rate", "(I)I"⟩, 17), (⟨"WinderLaddersModel", "passFault", "(I)I"⟩, 17), (⟨"WinderLaddersModel", "passes", "(I)I"⟩, 17), (⟨"WinderLaddersModel", "day", "(I)V"⟩, 17), (⟨"WinderLaddersModel", "still", "()I"⟩, 17), (⟨"WinderLaddersModel", "changes", "(I)I"⟩, 17), (⟨"WinderLaddersModel", "isOff", "(I)Z"⟩, 17), (⟨"WinderLaddersModel", "sum", "(I)I"⟩, 17), (⟨"WinderLaddersModel", "keepClock", "(I)V"⟩, 17)]
theorem lw_r2 : ∀ q ∈ lw_privs_2, lw_okq q := List.forall_mem_cons.mpr ⟨lw_p16, List.forall_mem_cons.mpr ⟨lw_p17, List.forall_mem_cons.mpr ⟨lw_p18, List.forall_mem_cons.mpr ⟨lw_p19, List.forall_mem_cons.mpr ⟨lw_p20, List.forall_mem_cons.mpr ⟨lw_p21, List.forall_mem_cons.mpr ⟨lw_p22, List.forall_mem_cons.mpr ⟨lw_p23, List.forall_mem_cons.mpr ⟨lw_p24, List.forall_mem_cons.mpr ⟨lw_p25, List.forall_mem_cons.mpr ⟨lw_p26, List.forall_mem_cons.mpr ⟨lw_p27, List.forall_mem_cons.mpr ⟨lw_p28, List.forall_mem_cons.mpr ⟨lw_p29, List.forall_mem_cons.mpr ⟨lw_p30, List.forall_mem_cons.mpr ⟨lw_p31, fun _ h => absurd h List.not_mem_nil⟩⟩⟩⟩⟩⟩⟩⟩⟩⟩⟩⟩⟩⟩⟩⟩
theorem lw_p32 : lw_okq (⟨"WinderLaddersModel", "go", "(Z)I"⟩, 17) := ⟨⟨by decide +kernel, by decide +kernel⟩, List.mem_of_getElem? (i := 518) (by decide +kernel), List.mem_of_getElem? (i := 752) (by decide +kernel), List.mem_of_getElem? (i := 753) (by decide +kernel)⟩
theorem lw_p33 : lw_okq (⟨"WinderLaddersModel", "order", "()V"⟩, 17) := ⟨⟨by decide +kernel, by decide +kernel⟩, List.mem_of_getElem? (i := 518) (by decide +kernel), List.mem_of_getElem? (i := 756) (by decide +kernel), List.mem_of_getElem? (i := 757) (by decide +kernel)⟩
theorem lw_p34 : lw_okq (⟨"WinderLaddersModel", "number", "()I"⟩, 17) := ⟨⟨by decide +kernel, by decide +kernel⟩, List.mem_of_getElem? (i := 518) (by decide +kernel), List.mem_of_getElem? (i := 760) (by decide +kernel), List.mem_of_getElem? (i := 761) (by decide +kernel)⟩
theorem lw_p35 : lw_okq (⟨"WinderLaddersModel", "sign", "(II)I"⟩, 17) := ⟨⟨by decide +kernel, by decide +kernel⟩, List.mem_of_getElem? (i := 518) (by decide +kernel), List.mem_of_getElem? (i := 764) (by decide +kernel), List.mem_of_getElem? (i := 765) (by decide +kernel)⟩
theorem lw_p36 : lw_okq (⟨"WinderLaddersModel", "isNext", "(II)Z"⟩, 17) := ⟨⟨by decide +kernel, by decide +kernel⟩, List.mem_of_getElem? (i := 518) (by decide +kernel), List.mem_of_getElem? (i := 768) (by decide +kernel), List.mem_of_getElem? (i := 769) (by decide +kernel)⟩
theorem lw_p37 : lw_okq (⟨"WinderLaddersModel", "does", "()Z"⟩, 17) := ⟨⟨by decide +kernel, by decide +kernel⟩, List.mem_of_getElem? (i := 518) (by decide +kernel), List.mem_of_getElem? (i := 772) (by decide +kernel), List.mem_of_getElem? (i := 773) (by decide +kernel)⟩
theorem lw_p38 : lw_okq (⟨"WinderLaddersModel", "rowFault", "()I"⟩, 17) := ⟨⟨by decide +kernel, by decide +kernel⟩, List.mem_of_getElem? (i := 518) (by decide +kernel), List.mem_of_getElem? (i := 776) (by decide +kernel), List.mem_of_getElem? (i := 777) (by decide +kernel)⟩
def lw_privs_3 : List (MethodName × Nat) := [(⟨"WinderLaddersModel", "go", "(Z)I"⟩, 17), (⟨"WinderLaddersModel", "order", "()V"⟩, 17), (⟨"WinderLaddersModel", "number", "()I"⟩, 17), (⟨"WinderLaddersModel", "sign", "(II)I"⟩, 17), (⟨"WinderLaddersModel", "isNext", "(II)Z"⟩, 17), (⟨"WinderLaddersModel", "does", "()Z"⟩, 17), (⟨"WinderLaddersModel", "rowFault", "()I"⟩, 17)]
theorem lw_r3 : ∀ q ∈ lw_privs_3, lw_okq q := List.forall_mem_cons.mpr ⟨lw_p32, List.forall_mem_cons.mpr ⟨lw_p33, List.forall_mem_cons.mpr ⟨lw_p34, List.forall_mem_cons.mpr ⟨lw_p35, List.forall_mem_cons.mpr ⟨lw_p36, List.forall_mem_cons.mpr ⟨lw_p37, List.forall_mem_cons.mpr ⟨lw_p38, fun _ h => absurd h List.not_mem_nil⟩⟩⟩⟩⟩⟩⟩
def lw_privs : List (MethodName × Nat) := lw_privs_1 ++ (lw_privs_2 ++ (lw_privs_3))
def lw_tbl : List Cond := k2_sels lw_privs ++ tables_1
theorem lw_privs_ok : ∀ q ∈ lw_privs, lw_okq q := by
  show ∀ q ∈ lw_privs_1 ++ (lw_privs_2 ++ (lw_privs_3)), lw_okq q
  exact List.forall_mem_append.mpr ⟨lw_r1, List.forall_mem_append.mpr ⟨lw_r2, lw_r3⟩⟩
-- ===== end of PART A; then your names; then what follows =====
end
section
/-! ===== BEGIN words of one list among another's, by their places ===== -/
theorem goodIn_r {big : List Cond} (ws : List Cond) (ps : List Nat) (hp : ws = ps.filterMap (fun i => big[i]?)) (h : ws.all goodWord = true) : GoodIn big ws := by
  intro w hw
  have h1 := List.all_eq_true.mp h w hw
  rw [hp] at hw
  obtain ⟨i, -, hi⟩ := List.mem_filterMap.mp hw
  have hm : w ∈ big := by first | exact List.mem_of_getElem? hi | exact List.getElem?_mem hi
  exact ⟨hm, good_of_word h1⟩
theorem goodIn_app {big a b : List Cond} (ha : GoodIn big a) (hb : GoodIn big b) : GoodIn big (a ++ b) := fun w h => (List.mem_append.mp h).elim (ha w) (hb w)
theorem goodIn_ca {big a b : List Cond} {c : Cond} (ha : GoodIn big (c :: a)) (hb : GoodIn big b) : GoodIn big (c :: (a ++ b)) := fun w h => (List.mem_cons.mp h).elim (fun e => ha w (List.mem_cons.mpr (Or.inl e))) (fun h => (List.mem_append.mp h).elim (fun h => ha w (List.mem_cons.mpr (Or.inr h))) (hb w))
theorem goodIn_sub {big ws : List Cond} (hm : ∀ w ∈ ws, w ∈ big) (h : ws.all goodWord = true) : GoodIn big ws := fun w hw => ⟨hm w hw, good_of_word (List.all_eq_true.mp h w hw)⟩
/-! ===== END ===== -/

/-! ===== BEGIN printed: names, fields, word lists, decode rows ===== -/
def RX0 : String := "WinderLadders$Clock"
def TX0 : u_T := fun k => match k with
  | 0 => ("WinderLadders$Clock", "house", "I", false)
  | 1 => ("WinderLadders$Clock", "rungs", "I", false)
  | 2 => ("WinderLadders$Clock", "drift", "I", false)
  | 3 => ("WinderLadders$Clock", "screw", "I", false)
  | 4 => ("WinderLadders$Clock", "off", "I", false)
  | 5 => ("WinderLadders$Clock", "daysSinceWound", "I", false)
  | 6 => ("WinderLadders$Clock", "timesWound", "I", false)
  | _ => ("WinderLadders$Clock", "goes", "Z", false)
def tyX0 : Nat → FieldType := fun k => match k with
  | 0 => .int
  | 1 => .int
  | 2 => .int
  | 3 => .int
  | 4 => .int
  | 5 => .int
  | 6 => .int
  | _ => .boolean
abbrev wsX00 : List Cond := u_ws RX0 TX0 8
theorem nmX0 : ∀ a, a < 8 → ∀ b, b < 8 → a ≠ b → (TX0 a).2.1 ≠ (TX0 b).2.1 := by decide +kernel
theorem tyX0_ok : ∀ k, k < 8 → parseFieldDescriptor (TX0 k).2.2.1 = some (tyX0 k) := by decide +kernel
abbrev cX0_init : ByteArray := prog_2_method_1_code
def yX0_init : MethodName := ⟨RX0, "<init>", "()V"⟩
abbrev cX0_copyFrom : ByteArray := prog_2_method_2_code
def yX0_copyFrom : MethodName := ⟨RX0, "copyFrom", "(LWinderLadders$Clock;)V"⟩
abbrev cX0_begin : ByteArray := prog_2_method_3_code
def yX0_begin : MethodName := ⟨RX0, "begin", "(III)V"⟩
abbrev cX0_driftWithScrew : ByteArray := prog_2_method_4_code
def yX0_driftWithScrew : MethodName := ⟨RX0, "driftWithScrew", "()I"⟩
abbrev cX0_isOffBeyond : ByteArray := prog_2_method_5_code
def yX0_isOffBeyond : MethodName := ⟨RX0, "isOffBeyond", "(I)Z"⟩
abbrev cX0_passDay : ByteArray := prog_2_method_6_code
def yX0_passDay : MethodName := ⟨RX0, "passDay", "(I)V"⟩
abbrev cX0_windAndSet : ByteArray := prog_2_method_7_code
def yX0_windAndSet : MethodName := ⟨RX0, "windAndSet", "(I)V"⟩
abbrev cX0_turnByRule : ByteArray := prog_2_method_8_code
def yX0_turnByRule : MethodName := ⟨RX0, "turnByRule", "()V"⟩
abbrev cX0_daysUntilOff : ByteArray := prog_2_method_9_code
def yX0_daysUntilOff : MethodName := ⟨RX0, "daysUntilOff", "(II)I"⟩
def RX1 : String := "WinderLadders$History"
def TX1 : u_T := fun k => match k with
  | 0 => ("WinderLadders$History", "states", "[LWinderLadders$State;", true)
  | _ => ("WinderLadders$History", "depth", "I", false)
def tyX1 : Nat → FieldType := fun k => match k with
  | 0 => .array (.object "WinderLadders$State")
  | _ => .int
abbrev wsX10 : List Cond := u_ws RX1 TX1 2
theorem nmX1 : ∀ a, a < 2 → ∀ b, b < 2 → a ≠ b → (TX1 a).2.1 ≠ (TX1 b).2.1 := by decide +kernel
theorem tyX1_ok : ∀ k, k < 2 → parseFieldDescriptor (TX1 k).2.2.1 = some (tyX1 k) := by decide +kernel
abbrev cX1_init : ByteArray := prog_3_method_1_code
def yX1_init : MethodName := ⟨RX1, "<init>", "()V"⟩
abbrev cX1_prepare : ByteArray := prog_3_method_2_code
def yX1_prepare : MethodName := ⟨RX1, "prepare", "(LWinderLadders$State;)V"⟩
abbrev cX1_keepPrepared : ByteArray := prog_3_method_3_code
def yX1_keepPrepared : MethodName := ⟨RX1, "keepPrepared", "()V"⟩
abbrev cX1_dropOldest : ByteArray := prog_3_method_4_code
def yX1_dropOldest : MethodName := ⟨RX1, "dropOldest", "()V"⟩
abbrev cX1_takeBack : ByteArray := prog_3_method_5_code
def yX1_takeBack : MethodName := ⟨RX1, "takeBack", "(LWinderLadders$State;)Z"⟩
def RX2 : String := "WinderLadders$Pad"
def TX2 : u_T := fun k => match k with
  | 0 => ("WinderLadders$Pad", "signs", "[C", true)
  | 1 => ("WinderLadders$Pad", "numbers", "LWinderLadders$Row;", true)
  | 2 => ("WinderLadders$Pad", "length", "I", false)
  | 3 => ("WinderLadders$Pad", "place", "I", false)
  | _ => ("WinderLadders$Pad", "kind", "I", false)
def tyX2 : Nat → FieldType := fun k => match k with
  | 0 => .array .char
  | 1 => .object "WinderLadders$Row"
  | 2 => .int
  | 3 => .int
  | _ => .int
abbrev wsX20 : List Cond := u_ws RX2 TX2 5
theorem nmX2 : ∀ a, a < 5 → ∀ b, b < 5 → a ≠ b → (TX2 a).2.1 ≠ (TX2 b).2.1 := by decide +kernel
theorem tyX2_ok : ∀ k, k < 5 → parseFieldDescriptor (TX2 k).2.2.1 = some (tyX2 k) := by decide +kernel
abbrev cX2_init : ByteArray := prog_4_method_1_code
def yX2_init : MethodName := ⟨RX2, "<init>", "()V"⟩
abbrev cX2_append : ByteArray := prog_4_method_2_code
def yX2_append : MethodName := ⟨RX2, "append", "(C)V"⟩
abbrev cX2_findFault : ByteArray := prog_4_method_3_code
def yX2_findFault : MethodName := ⟨RX2, "findFault", "()I"⟩
abbrev cX2_goToStart : ByteArray := prog_4_method_4_code
def yX2_goToStart : MethodName := ⟨RX2, "goToStart", "()V"⟩
abbrev cX2_readNext : ByteArray := prog_4_method_5_code
def yX2_readNext : MethodName := ⟨RX2, "readNext", "()Z"⟩
abbrev cX2_readNumbers : ByteArray := prog_4_method_6_code
def yX2_readNumbers : MethodName := ⟨RX2, "readNumbers", "()Z"⟩
abbrev cX2_readValue : ByteArray := prog_4_method_7_code
def yX2_readValue : MethodName := ⟨RX2, "readValue", "()Z"⟩
abbrev cX2_readNumber : ByteArray := prog_4_method_8_code
def yX2_readNumber : MethodName := ⟨RX2, "readNumber", "(I)Z"⟩
abbrev cX2_take : ByteArray := prog_4_method_9_code
def yX2_take : MethodName := ⟨RX2, "take", "(C)Z"⟩
abbrev cX2_here : ByteArray := prog_4_method_10_code
def yX2_here : MethodName := ⟨RX2, "here", "()C"⟩
abbrev cX2_isDigit : ByteArray := prog_4_method_11_code
def yX2_isDigit : MethodName := ⟨RX2, "isDigit", "(C)Z"⟩
def RX3 : String := "WinderLadders$Row"
def TX3 : u_T := fun k => match k with
  | 0 => ("WinderLadders$Row", "numbers", "[I", true)
  | _ => ("WinderLadders$Row", "length", "I", false)
def tyX3 : Nat → FieldType := fun k => match k with
  | 0 => .array .int
  | _ => .int
abbrev wsX30 : List Cond := u_ws RX3 TX3 2
theorem nmX3 : ∀ a, a < 2 → ∀ b, b < 2 → a ≠ b → (TX3 a).2.1 ≠ (TX3 b).2.1 := by decide +kernel
theorem tyX3_ok : ∀ k, k < 2 → parseFieldDescriptor (TX3 k).2.2.1 = some (tyX3 k) := by decide +kernel
abbrev cX3_init : ByteArray := prog_5_method_1_code
def yX3_init : MethodName := ⟨RX3, "<init>", "()V"⟩
abbrev cX3_clear : ByteArray := prog_5_method_2_code
def yX3_clear : MethodName := ⟨RX3, "clear", "()V"⟩
abbrev cX3_add : ByteArray := prog_5_method_3_code
def yX3_add : MethodName := ⟨RX3, "add", "(I)Z"⟩
abbrev cX3_at : ByteArray := prog_5_method_4_code
def yX3_at : MethodName := ⟨RX3, "at", "(I)I"⟩
abbrev cX3_turnRound : ByteArray := prog_5_method_5_code
def yX3_turnRound : MethodName := ⟨RX3, "turnRound", "()V"⟩
def RX4 : String := "WinderLadders$State"
def TX4 : u_T := fun k => match k with
  | 0 => ("WinderLadders$State", "settings", "[I", true)
  | 1 => ("WinderLadders$State", "clocks", "[LWinderLadders$Clock;", true)
  | 2 => ("WinderLadders$State", "ladders", "[I", true)
  | 3 => ("WinderLadders$State", "clockCount", "I", false)
  | 4 => ("WinderLadders$State", "ladderCount", "I", false)
  | 5 => ("WinderLadders$State", "days", "I", false)
  | _ => ("WinderLadders$State", "minutes", "I", false)
def tyX4 : Nat → FieldType := fun k => match k with
  | 0 => .array .int
  | 1 => .array (.object "WinderLadders$Clock")
  | 2 => .array .int
  | 3 => .int
  | 4 => .int
  | 5 => .int
  | _ => .int
abbrev wsX40 : List Cond := u_ws RX4 TX4 7
theorem nmX4 : ∀ a, a < 7 → ∀ b, b < 7 → a ≠ b → (TX4 a).2.1 ≠ (TX4 b).2.1 := by decide +kernel
theorem tyX4_ok : ∀ k, k < 7 → parseFieldDescriptor (TX4 k).2.2.1 = some (tyX4 k) := by decide +kernel
abbrev cX4_init : ByteArray := prog_6_method_1_code
def yX4_init : MethodName := ⟨RX4, "<init>", "()V"⟩
abbrev cX4_copyFrom : ByteArray := prog_6_method_2_code
def yX4_copyFrom : MethodName := ⟨RX4, "copyFrom", "(LWinderLadders$State;)V"⟩
abbrev cX4_hasClock : ByteArray := prog_6_method_3_code
def yX4_hasClock : MethodName := ⟨RX4, "hasClock", "(I)Z"⟩
abbrev cX4_hasLadder : ByteArray := prog_6_method_4_code
def yX4_hasLadder : MethodName := ⟨RX4, "hasLadder", "(I)Z"⟩
abbrev cX4_replaceSetting : ByteArray := prog_6_method_5_code
def yX4_replaceSetting : MethodName := ⟨RX4, "replaceSetting", "(II)I"⟩
abbrev cX4_addClock : ByteArray := prog_6_method_6_code
def yX4_addClock : MethodName := ⟨RX4, "addClock", "(III)I"⟩
abbrev cX4_addLadder : ByteArray := prog_6_method_7_code
def yX4_addLadder : MethodName := ⟨RX4, "addLadder", "(I)I"⟩
abbrev cX4_turnScrew : ByteArray := prog_6_method_8_code
def yX4_turnScrew : MethodName := ⟨RX4, "turnScrew", "(II)I"⟩
abbrev cX4_passDays : ByteArray := prog_6_method_9_code
def yX4_passDays : MethodName := ⟨RX4, "passDays", "(I)I"⟩
abbrev cX4_changeClocks : ByteArray := prog_6_method_10_code
def yX4_changeClocks : MethodName := ⟨RX4, "changeClocks", "(I)I"⟩
abbrev cX4_walkBeat : ByteArray := prog_6_method_11_code
def yX4_walkBeat : MethodName := ⟨RX4, "walkBeat", "(LWinderLadders$Row;)I"⟩
abbrev cX4_minutesOf : ByteArray := prog_6_method_12_code
def yX4_minutesOf : MethodName := ⟨RX4, "minutesOf", "(LWinderLadders$Row;)I"⟩
abbrev cX4_ladderNeeded : ByteArray := prog_6_method_13_code
def yX4_ladderNeeded : MethodName := ⟨RX4, "ladderNeeded", "(LWinderLadders$Clock;)I"⟩
abbrev cX4_canBeWound : ByteArray := prog_6_method_14_code
def yX4_canBeWound : MethodName := ⟨RX4, "canBeWound", "(LWinderLadders$Clock;)Z"⟩
abbrev cX4_numberThatGo : ByteArray := prog_6_method_15_code
def yX4_numberThatGo : MethodName := ⟨RX4, "numberThatGo", "()I"⟩
abbrev cX4_setOfStill : ByteArray := prog_6_method_16_code
def yX4_setOfStill : MethodName := ⟨RX4, "setOfStill", "()I"⟩
abbrev cX4_numberOffBeyondTold : ByteArray := prog_6_method_17_code
def yX4_numberOffBeyondTold : MethodName := ⟨RX4, "numberOffBeyondTold", "()I"⟩
abbrev cX4_numberThatCannotBeWound : ByteArray := prog_6_method_18_code
def yX4_numberThatCannotBeWound : MethodName := ⟨RX4, "numberThatCannotBeWound", "()I"⟩
abbrev cX4_timesWoundInAll : ByteArray := prog_6_method_19_code
def yX4_timesWoundInAll : MethodName := ⟨RX4, "timesWoundInAll", "()I"⟩
abbrev cX4_rungsOutOfReach : ByteArray := prog_6_method_20_code
def yX4_rungsOutOfReach : MethodName := ⟨RX4, "rungsOutOfReach", "()I"⟩
abbrev cX4_daysUntilOff : ByteArray := prog_6_method_21_code
def yX4_daysUntilOff : MethodName := ⟨RX4, "daysUntilOff", "(I)I"⟩
abbrev cX4_tellDaysUntilOff : ByteArray := prog_6_method_22_code
def yX4_tellDaysUntilOff : MethodName := ⟨RX4, "tellDaysUntilOff", "([I)V"⟩
abbrev cX4_rankOf : ByteArray := prog_6_method_23_code
def yX4_rankOf : MethodName := ⟨RX4, "rankOf", "(I[I)I"⟩
def RX5 : String := "WinderLadders"
def TX5 : u_T := fun k => match k with
  | 0 => ("WinderLadders", "now", "LWinderLadders$State;", true)
  | 1 => ("WinderLadders", "history", "LWinderLadders$History;", true)
  | 2 => ("WinderLadders", "slots", "[LWinderLadders$State;", true)
  | 3 => ("WinderLadders", "slotHolds", "[Z", true)
  | 4 => ("WinderLadders", "pad", "LWinderLadders$Pad;", true)
  | 5 => ("WinderLadders", "row", "LWinderLadders$Row;", true)
  | _ => ("WinderLadders", "lasting", "[I", true)
def tyX5 : Nat → FieldType := fun k => match k with
  | 0 => .object "WinderLadders$State"
  | 1 => .object "WinderLadders$History"
  | 2 => .array (.object "WinderLadders$State")
  | 3 => .array .boolean
  | 4 => .object "WinderLadders$Pad"
  | 5 => .object "WinderLadders$Row"
  | _ => .array .int
abbrev wsX50 : List Cond := u_ws RX5 TX5 7
theorem nmX5 : ∀ a, a < 7 → ∀ b, b < 7 → a ≠ b → (TX5 a).2.1 ≠ (TX5 b).2.1 := by decide +kernel
theorem tyX5_ok : ∀ k, k < 7 → parseFieldDescriptor (TX5 k).2.2.1 = some (tyX5 k) := by decide +kernel
abbrev cX5_init : ByteArray := prog_1_method_1_code
def yX5_init : MethodName := ⟨RX5, "<init>", "()V"⟩
abbrev cX5_set : ByteArray := prog_1_method_2_code
def yX5_set : MethodName := ⟨RX5, "set", "(II)I"⟩
abbrev cX5_hang : ByteArray := prog_1_method_3_code
def yX5_hang : MethodName := ⟨RX5, "hang", "(III)I"⟩
abbrev cX5_ladder : ByteArray := prog_1_method_4_code
def yX5_ladder : MethodName := ⟨RX5, "ladder", "(I)I"⟩
abbrev cX5_screw : ByteArray := prog_1_method_5_code
def yX5_screw : MethodName := ⟨RX5, "screw", "(II)I"⟩
abbrev cX5_round : ByteArray := prog_1_method_6_code
def yX5_round : MethodName := ⟨RX5, "round", "(I)I"⟩
abbrev cX5_pass : ByteArray := prog_1_method_7_code
def yX5_pass : MethodName := ⟨RX5, "pass", "(I)I"⟩
abbrev cX5_change : ByteArray := prog_1_method_8_code
def yX5_change : MethodName := ⟨RX5, "change", "(I)I"⟩
abbrev cX5_of : ByteArray := prog_1_method_9_code
def yX5_of : MethodName := ⟨RX5, "of", "(II)I"⟩
abbrev cX5_ofLadder : ByteArray := prog_1_method_10_code
def yX5_ofLadder : MethodName := ⟨RX5, "ofLadder", "(I)I"⟩
abbrev cX5_count : ByteArray := prog_1_method_11_code
def yX5_count : MethodName := ⟨RX5, "count", "(I)I"⟩
abbrev cX5_takes : ByteArray := prog_1_method_12_code
def yX5_takes : MethodName := ⟨RX5, "takes", "(I)I"⟩
abbrev cX5_lasts : ByteArray := prog_1_method_13_code
def yX5_lasts : MethodName := ⟨RX5, "lasts", "(I)I"⟩
abbrev cX5_needs : ByteArray := prog_1_method_14_code
def yX5_needs : MethodName := ⟨RX5, "needs", "(I)I"⟩
abbrev cX5_ladderFor : ByteArray := prog_1_method_15_code
def yX5_ladderFor : MethodName := ⟨RX5, "ladderFor", "()I"⟩
abbrev cX5_wayRound : ByteArray := prog_1_method_16_code
def yX5_wayRound : MethodName := ⟨RX5, "wayRound", "(I)I"⟩
abbrev cX5_put : ByteArray := prog_1_method_17_code
def yX5_put : MethodName := ⟨RX5, "put", "(J)I"⟩
abbrev cX5_wipe : ByteArray := prog_1_method_18_code
def yX5_wipe : MethodName := ⟨RX5, "wipe", "()I"⟩
abbrev cX5_fault : ByteArray := prog_1_method_19_code
def yX5_fault : MethodName := ⟨RX5, "fault", "()I"⟩
abbrev cX5_carryOut : ByteArray := prog_1_method_20_code
def yX5_carryOut : MethodName := ⟨RX5, "carryOut", "()I"⟩
abbrev cX5_undo : ByteArray := prog_1_method_21_code
def yX5_undo : MethodName := ⟨RX5, "undo", "()I"⟩
abbrev cX5_save : ByteArray := prog_1_method_22_code
def yX5_save : MethodName := ⟨RX5, "save", "(I)I"⟩
abbrev cX5_restore : ByteArray := prog_1_method_23_code
def yX5_restore : MethodName := ⟨RX5, "restore", "(I)I"⟩
abbrev cX5_keptIfDone : ByteArray := prog_1_method_24_code
def yX5_keptIfDone : MethodName := ⟨RX5, "keptIfDone", "(I)I"⟩
abbrev cX5_chooseRow : ByteArray := prog_1_method_25_code
def yX5_chooseRow : MethodName := ⟨RX5, "chooseRow", "(I)I"⟩
abbrev cX5_carryOrdersOut : ByteArray := prog_1_method_26_code
def yX5_carryOrdersOut : MethodName := ⟨RX5, "carryOrdersOut", "()I"⟩
abbrev cX5_carryOneOut : ByteArray := prog_1_method_27_code
def yX5_carryOneOut : MethodName := ⟨RX5, "carryOneOut", "()I"⟩
abbrev cX5_signsIn : ByteArray := prog_1_method_28_code
def yX5_signsIn : MethodName := ⟨RX5, "signsIn", "(J)I"⟩
abbrev cX5_codeAt : ByteArray := prog_1_method_29_code
def yX5_codeAt : MethodName := ⟨RX5, "codeAt", "(JI)I"⟩
abbrev cX5_isWithin : ByteArray := prog_1_method_30_code
def yX5_isWithin : MethodName := ⟨RX5, "isWithin", "(III)Z"⟩
def RX6 : String := "WinderLaddersModel"
def TX6 : u_T := fun k => match k with
  | 0 => ("WinderLaddersModel", "s", "[I", true)
  | 1 => ("WinderLaddersModel", "aside", "[I", true)
  | 2 => ("WinderLaddersModel", "before", "[I", true)
  | 3 => ("WinderLaddersModel", "known", "I", false)
  | 4 => ("WinderLaddersModel", "slots", "[I", true)
  | 5 => ("WinderLaddersModel", "isSaved", "[Z", true)
  | 6 => ("WinderLaddersModel", "pad", "[I", true)
  | 7 => ("WinderLaddersModel", "length", "I", false)
  | 8 => ("WinderLaddersModel", "row", "[I", true)
  | 9 => ("WinderLaddersModel", "inRow", "I", false)
  | 10 => ("WinderLaddersModel", "last", "[I", true)
  | 11 => ("WinderLaddersModel", "place", "I", false)
  | 12 => ("WinderLaddersModel", "isWrong", "Z", false)
  | 13 => ("WinderLaddersModel", "letter", "I", false)
  | 14 => ("WinderLaddersModel", "one", "I", false)
  | 15 => ("WinderLaddersModel", "two", "I", false)
  | _ => ("WinderLaddersModel", "three", "I", false)
def tyX6 : Nat → FieldType := fun k => match k with
  | 0 => .array .int
  | 1 => .array .int
  | 2 => .array .int
  | 3 => .int
  | 4 => .array .int
  | 5 => .array .boolean
  | 6 => .array .int
  | 7 => .int
  | 8 => .array .int
  | 9 => .int
  | 10 => .array .int
  | 11 => .int
  | 12 => .boolean
  | 13 => .int
  | 14 => .int
  | 15 => .int
  | _ => .int
abbrev wsX60 : List Cond := u_ws RX6 TX6 17
theorem nmX6 : ∀ a, a < 17 → ∀ b, b < 17 → a ≠ b → (TX6 a).2.1 ≠ (TX6 b).2.1 := by decide +kernel
theorem tyX6_ok : ∀ k, k < 17 → parseFieldDescriptor (TX6 k).2.2.1 = some (tyX6 k) := by decide +kernel
abbrev cX6_init : ByteArray := prog_8_method_1_code
def yX6_init : MethodName := ⟨RX6, "<init>", "()V"⟩
abbrev cX6_in : ByteArray := prog_8_method_3_code
def yX6_in : MethodName := ⟨RX6, "in", "(III)Z"⟩
abbrev cX6_size : ByteArray := prog_8_method_4_code
def yX6_size : MethodName := ⟨RX6, "size", "(I)I"⟩
abbrev cX6_at : ByteArray := prog_8_method_5_code
def yX6_at : MethodName := ⟨RX6, "at", "(II)I"⟩
abbrev cX6_isClock : ByteArray := prog_8_method_6_code
def yX6_isClock : MethodName := ⟨RX6, "isClock", "(I)Z"⟩
abbrev cX6_know : ByteArray := prog_8_method_7_code
def yX6_know : MethodName := ⟨RX6, "know", "()V"⟩
abbrev cX6_rate : ByteArray := prog_8_method_8_code
def yX6_rate : MethodName := ⟨RX6, "rate", "(I)I"⟩
abbrev cX6_isOff : ByteArray := prog_8_method_9_code
def yX6_isOff : MethodName := ⟨RX6, "isOff", "(I)Z"⟩
abbrev cX6_ladderOf : ByteArray := prog_8_method_10_code
def yX6_ladderOf : MethodName := ⟨RX6, "ladderOf", "(I)I"⟩
abbrev cX6_canWind : ByteArray := prog_8_method_11_code
def yX6_canWind : MethodName := ⟨RX6, "canWind", "(I)Z"⟩
abbrev cX6_day : ByteArray := prog_8_method_12_code
def yX6_day : MethodName := ⟨RX6, "day", "(I)V"⟩
abbrev cX6_way : ByteArray := prog_8_method_13_code
def yX6_way : MethodName := ⟨RX6, "way", "(II)I"⟩
abbrev cX6_minutes : ByteArray := prog_8_method_14_code
def yX6_minutes : MethodName := ⟨RX6, "minutes", "()I"⟩
abbrev cX6_work : ByteArray := prog_8_method_15_code
def yX6_work : MethodName := ⟨RX6, "work", "(I)V"⟩
abbrev cX6_goes : ByteArray := prog_8_method_16_code
def yX6_goes : MethodName := ⟨RX6, "goes", "()I"⟩
abbrev cX6_layOut : ByteArray := prog_8_method_17_code
def yX6_layOut : MethodName := ⟨RX6, "layOut", "(IZ)I"⟩
abbrev cX6_hangFault : ByteArray := prog_8_method_18_code
def yX6_hangFault : MethodName := ⟨RX6, "hangFault", "(III)I"⟩
abbrev cX6_hangs : ByteArray := prog_8_method_19_code
def yX6_hangs : MethodName := ⟨RX6, "hangs", "(III)I"⟩
abbrev cX6_ladderFault : ByteArray := prog_8_method_20_code
def yX6_ladderFault : MethodName := ⟨RX6, "ladderFault", "(I)I"⟩
abbrev cX6_buys : ByteArray := prog_8_method_21_code
def yX6_buys : MethodName := ⟨RX6, "buys", "(I)I"⟩
abbrev cX6_passFault : ByteArray := prog_8_method_22_code
def yX6_passFault : MethodName := ⟨RX6, "passFault", "(I)I"⟩
abbrev cX6_still : ByteArray := prog_8_method_23_code
def yX6_still : MethodName := ⟨RX6, "still", "()I"⟩
abbrev cX6_many : ByteArray := prog_8_method_24_code
def yX6_many : MethodName := ⟨RX6, "many", "(I)I"⟩
abbrev cX6_passes : ByteArray := prog_8_method_25_code
def yX6_passes : MethodName := ⟨RX6, "passes", "(I)I"⟩
abbrev cX6_changes : ByteArray := prog_8_method_26_code
def yX6_changes : MethodName := ⟨RX6, "changes", "(I)I"⟩
abbrev cX6_set : ByteArray := prog_8_method_27_code
def yX6_set : MethodName := ⟨RX6, "set", "(II)I"⟩
abbrev cX6_hang : ByteArray := prog_8_method_28_code
def yX6_hang : MethodName := ⟨RX6, "hang", "(III)I"⟩
abbrev cX6_ladder : ByteArray := prog_8_method_29_code
def yX6_ladder : MethodName := ⟨RX6, "ladder", "(I)I"⟩
abbrev cX6_screw : ByteArray := prog_8_method_30_code
def yX6_screw : MethodName := ⟨RX6, "screw", "(II)I"⟩
abbrev cX6_round : ByteArray := prog_8_method_31_code
def yX6_round : MethodName := ⟨RX6, "round", "(I)I"⟩
abbrev cX6_pass : ByteArray := prog_8_method_32_code
def yX6_pass : MethodName := ⟨RX6, "pass", "(I)I"⟩
abbrev cX6_change : ByteArray := prog_8_method_33_code
def yX6_change : MethodName := ⟨RX6, "change", "(I)I"⟩
abbrev cX6_of : ByteArray := prog_8_method_34_code
def yX6_of : MethodName := ⟨RX6, "of", "(II)I"⟩
abbrev cX6_ofLadder : ByteArray := prog_8_method_35_code
def yX6_ofLadder : MethodName := ⟨RX6, "ofLadder", "(I)I"⟩
abbrev cX6_sum : ByteArray := prog_8_method_36_code
def yX6_sum : MethodName := ⟨RX6, "sum", "(I)I"⟩
abbrev cX6_count : ByteArray := prog_8_method_37_code
def yX6_count : MethodName := ⟨RX6, "count", "(I)I"⟩
abbrev cX6_takes : ByteArray := prog_8_method_38_code
def yX6_takes : MethodName := ⟨RX6, "takes", "(I)I"⟩
abbrev cX6_keepClock : ByteArray := prog_8_method_39_code
def yX6_keepClock : MethodName := ⟨RX6, "keepClock", "(I)V"⟩
abbrev cX6_lasts : ByteArray := prog_8_method_40_code
def yX6_lasts : MethodName := ⟨RX6, "lasts", "(I)I"⟩
abbrev cX6_needs : ByteArray := prog_8_method_41_code
def yX6_needs : MethodName := ⟨RX6, "needs", "(I)I"⟩
abbrev cX6_ladderFor : ByteArray := prog_8_method_42_code
def yX6_ladderFor : MethodName := ⟨RX6, "ladderFor", "()I"⟩
abbrev cX6_wayRound : ByteArray := prog_8_method_43_code
def yX6_wayRound : MethodName := ⟨RX6, "wayRound", "(I)I"⟩
abbrev cX6_put : ByteArray := prog_8_method_44_code
def yX6_put : MethodName := ⟨RX6, "put", "(J)I"⟩
abbrev cX6_wipe : ByteArray := prog_8_method_45_code
def yX6_wipe : MethodName := ⟨RX6, "wipe", "()I"⟩
abbrev cX6_sign : ByteArray := prog_8_method_46_code
def yX6_sign : MethodName := ⟨RX6, "sign", "(II)I"⟩
abbrev cX6_isNext : ByteArray := prog_8_method_47_code
def yX6_isNext : MethodName := ⟨RX6, "isNext", "(II)Z"⟩
abbrev cX6_number : ByteArray := prog_8_method_48_code
def yX6_number : MethodName := ⟨RX6, "number", "()I"⟩
abbrev cX6_order : ByteArray := prog_8_method_49_code
def yX6_order : MethodName := ⟨RX6, "order", "()V"⟩
abbrev cX6_rowFault : ByteArray := prog_8_method_50_code
def yX6_rowFault : MethodName := ⟨RX6, "rowFault", "()I"⟩
abbrev cX6_does : ByteArray := prog_8_method_51_code
def yX6_does : MethodName := ⟨RX6, "does", "()Z"⟩
abbrev cX6_go : ByteArray := prog_8_method_52_code
def yX6_go : MethodName := ⟨RX6, "go", "(Z)I"⟩
abbrev cX6_fault : ByteArray := prog_8_method_53_code
def yX6_fault : MethodName := ⟨RX6, "fault", "()I"⟩
abbrev cX6_carryOut : ByteArray := prog_8_method_54_code
def yX6_carryOut : MethodName := ⟨RX6, "carryOut", "()I"⟩
abbrev cX6_undo : ByteArray := prog_8_method_55_code
def yX6_undo : MethodName := ⟨RX6, "undo", "()I"⟩
abbrev cX6_save : ByteArray := prog_8_method_56_code
def yX6_save : MethodName := ⟨RX6, "save", "(I)I"⟩
abbrev cX6_restore : ByteArray := prog_8_method_57_code
def yX6_restore : MethodName := ⟨RX6, "restore", "(I)I"⟩
def RJ9 : String := "java/lang/Math"
def TJ9 : u_T := fun k => match k with
  | _ => ("", "", "", false)
def tyJ9 : Nat → FieldType := fun k => match k with
  | _ => .int
abbrev wsJ90 : List Cond := u_ws RJ9 TJ9 0
theorem nmJ9 : ∀ a, a < 0 → ∀ b, b < 0 → a ≠ b → (TJ9 a).2.1 ≠ (TJ9 b).2.1 := by decide +kernel
theorem tyJ9_ok : ∀ k, k < 0 → parseFieldDescriptor (TJ9 k).2.2.1 = some (tyJ9 k) := by decide +kernel
abbrev cJ9_abs_0f7a4 : ByteArray := prog_9_method_59_code
def yJ9_abs_0f7a4 : MethodName := ⟨RJ9, "abs", "(I)I"⟩
abbrev cJ9_max_7cf53 : ByteArray := prog_9_method_65_code
def yJ9_max_7cf53 : MethodName := ⟨RJ9, "max", "(II)I"⟩
def RJ10 : String := "java/lang/System"
def TJ10 : u_T := fun k => match k with
  | _ => ("", "", "", false)
def tyJ10 : Nat → FieldType := fun k => match k with
  | _ => .int
abbrev wsJ100 : List Cond := u_ws RJ10 TJ10 0
theorem nmJ10 : ∀ a, a < 0 → ∀ b, b < 0 → a ≠ b → (TJ10 a).2.1 ≠ (TJ10 b).2.1 := by decide +kernel
theorem tyJ10_ok : ∀ k, k < 0 → parseFieldDescriptor (TJ10 k).2.2.1 = some (tyJ10 k) := by decide +kernel
def RL : String := "WinderLaddersLaw"
abbrev cL_law : ByteArray := code
def yL_law : MethodName := ⟨RL, "law", "([I)Z"⟩
def wsX0_init : List Cond := .code yX0_init cX0_init 1 none :: ([.methodLink RX0 3 objectInit, .instanceMethod objectInit, .code objectInit ⟨#[0xb1]⟩ 1 none])
def wsX0_copyFrom : List Cond := .code yX0_copyFrom cX0_copyFrom 2 none :: ([.fieldLink RX0 9 "WinderLadders$Clock" "house" "I", .fieldLink RX0 15 "WinderLadders$Clock" "rungs" "I", .fieldLink RX0 18 "WinderLadders$Clock" "drift" "I", .fieldLink RX0 21 "WinderLadders$Clock" "screw" "I", .fieldLink RX0 24 "WinderLadders$Clock" "off" "I", .fieldLink RX0 27 "WinderLadders$Clock" "daysSinceWound" "I", .fieldLink RX0 30 "WinderLadders$Clock" "timesWound" "I", .fieldLink RX0 33 "WinderLadders$Clock" "goes" "Z"] ++ wsX00)
def wsX0_begin : List Cond := .code yX0_begin cX0_begin 4 none :: ([.fieldLink RX0 9 "WinderLadders$Clock" "house" "I", .fieldLink RX0 15 "WinderLadders$Clock" "rungs" "I", .fieldLink RX0 18 "WinderLadders$Clock" "drift" "I", .fieldLink RX0 21 "WinderLadders$Clock" "screw" "I", .fieldLink RX0 24 "WinderLadders$Clock" "off" "I", .fieldLink RX0 27 "WinderLadders$Clock" "daysSinceWound" "I", .fieldLink RX0 30 "WinderLadders$Clock" "timesWound" "I", .fieldLink RX0 33 "WinderLadders$Clock" "goes" "Z"] ++ wsX00)
def wsX0_driftWithScrew : List Cond := .code yX0_driftWithScrew cX0_driftWithScrew 1 (some .int) :: ([.fieldLink RX0 18 "WinderLadders$Clock" "drift" "I", .fieldLink RX0 21 "WinderLadders$Clock" "screw" "I"] ++ wsX00)
def wsX0_isOffBeyond : List Cond := .code yX0_isOffBeyond cX0_isOffBeyond 2 (some .boolean) :: ([.fieldLink RX0 24 "WinderLadders$Clock" "off" "I", .methodLink RX0 37 Lib.Math.abs.name, .static Lib.Math.abs.name, .initialized "java/lang/Math", .code Lib.Math.abs.name Lib.Math.abs.code 1 (some .int)] ++ wsX00)
def wsX0_passDay : List Cond := .code yX0_passDay cX0_passDay 2 none :: ([.fieldLink RX0 33 "WinderLadders$Clock" "goes" "Z", .fieldLink RX0 24 "WinderLadders$Clock" "off" "I", .fieldLink RX0 27 "WinderLadders$Clock" "daysSinceWound" "I", .constant RX0 47 (43200), .methodLink RX0 43 yX0_driftWithScrew, .instanceMethod yX0_driftWithScrew, .selects RX0 yX0_driftWithScrew yX0_driftWithScrew, .initialized RX0, .code yX0_driftWithScrew cX0_driftWithScrew 1 (some .int), .fieldLink RX0 18 "WinderLadders$Clock" "drift" "I", .fieldLink RX0 21 "WinderLadders$Clock" "screw" "I"] ++ wsX00)
def wsX0_turnByRule : List Cond := .code yX0_turnByRule cX0_turnByRule 2 none :: ([.fieldLink RX0 21 "WinderLadders$Clock" "screw" "I", .methodLink RX0 43 yX0_driftWithScrew, .instanceMethod yX0_driftWithScrew, .selects RX0 yX0_driftWithScrew yX0_driftWithScrew, .initialized RX0, .code yX0_driftWithScrew cX0_driftWithScrew 1 (some .int), .fieldLink RX0 18 "WinderLadders$Clock" "drift" "I"] ++ wsX00)
def wsX0_windAndSet : List Cond := .code yX0_windAndSet cX0_windAndSet 2 none :: ([.fieldLink RX0 33 "WinderLadders$Clock" "goes" "Z", .fieldLink RX0 24 "WinderLadders$Clock" "off" "I", .fieldLink RX0 27 "WinderLadders$Clock" "daysSinceWound" "I", .fieldLink RX0 30 "WinderLadders$Clock" "timesWound" "I", .methodLink RX0 48 yX0_isOffBeyond, .instanceMethod yX0_isOffBeyond, .selects RX0 yX0_isOffBeyond yX0_isOffBeyond, .initialized RX0, .code yX0_isOffBeyond cX0_isOffBeyond 2 (some .boolean), .methodLink RX0 37 Lib.Math.abs.name, .static Lib.Math.abs.name, .initialized "java/lang/Math", .code Lib.Math.abs.name Lib.Math.abs.code 1 (some .int), .methodLink RX0 52 yX0_turnByRule, .instanceMethod yX0_turnByRule, .selects RX0 yX0_turnByRule yX0_turnByRule, .code yX0_turnByRule cX0_turnByRule 2 none, .fieldLink RX0 21 "WinderLadders$Clock" "screw" "I", .methodLink RX0 43 yX0_driftWithScrew, .instanceMethod yX0_driftWithScrew, .selects RX0 yX0_driftWithScrew yX0_driftWithScrew, .code yX0_driftWithScrew cX0_driftWithScrew 1 (some .int), .fieldLink RX0 18 "WinderLadders$Clock" "drift" "I"] ++ wsX00)
def wsX0_daysUntilOff : List Cond := .code yX0_daysUntilOff cX0_daysUntilOff 5 (some .int) :: ([.fieldLink RX0 27 "WinderLadders$Clock" "daysSinceWound" "I", .methodLink RX0 55 Lib.Math.max.name, .static Lib.Math.max.name, .initialized "java/lang/Math", .code Lib.Math.max.name Lib.Math.max.code 2 (some .int), .fieldLink RX0 24 "WinderLadders$Clock" "off" "I", .methodLink RX0 37 Lib.Math.abs.name, .static Lib.Math.abs.name, .code Lib.Math.abs.name Lib.Math.abs.code 1 (some .int), .methodLink RX0 48 yX0_isOffBeyond, .instanceMethod yX0_isOffBeyond, .selects RX0 yX0_isOffBeyond yX0_isOffBeyond, .initialized RX0, .code yX0_isOffBeyond cX0_isOffBeyond 2 (some .boolean), .methodLink RX0 43 yX0_driftWithScrew, .instanceMethod yX0_driftWithScrew, .selects RX0 yX0_driftWithScrew yX0_driftWithScrew, .code yX0_driftWithScrew cX0_driftWithScrew 1 (some .int), .fieldLink RX0 18 "WinderLadders$Clock" "drift" "I", .fieldLink RX0 21 "WinderLadders$Clock" "screw" "I"] ++ wsX00)
def wsX4_init : List Cond := .code yX4_init cX4_init 2 none :: ([.methodLink RX4 3 objectInit, .instanceMethod objectInit, .code objectInit ⟨#[0xb1]⟩ 1 none, .arrayClass .int, .fieldLink RX4 9 "WinderLadders$State" "settings" "[I", .classLink RX4 15 RX0, .fieldLink RX4 17 "WinderLadders$State" "clocks" "[LWinderLadders$Clock;", .fieldLink RX4 21 "WinderLadders$State" "ladders" "[I", .methodLink RX4 27 arraycopyName, .native arraycopyName, .static arraycopyName, .initialized "java/lang/System", .instantiable RX0 8, .initialized RX0, .instanceMethod yX0_init, .code yX0_init cX0_init 1 none, .methodLink RX0 3 objectInit] ++ wsX40 ++ wsX00)
def wsX1_init_r1 : List Cond := [Cond.methodLink RX1 3 objectInit, Cond.instanceMethod objectInit, Cond.code objectInit ⟨#[0xb1]⟩ 1 none, Cond.classLink RX1 9 RX4, Cond.fieldLink RX1 11 "WinderLadders$History" "states" "[LWinderLadders$State;", Cond.instantiable RX4 7, Cond.initialized RX4, Cond.methodLink RX1 17 yX4_init, Cond.instanceMethod yX4_init, Cond.code yX4_init cX4_init 2 none, Cond.methodLink RX4 3 objectInit, Cond.arrayClass .int, Cond.fieldLink RX4 9 "WinderLadders$State" "settings" "[I", Cond.classLink RX4 15 RX0, Cond.fieldLink RX4 17 "WinderLadders$State" "clocks" "[LWinderLadders$Clock;", Cond.fieldLink RX4 21 "WinderLadders$State" "ladders" "[I", Cond.methodLink RX4 27 arraycopyName, Cond.native arraycopyName, Cond.static arraycopyName, Cond.initialized "java/lang/System", Cond.instantiable RX0 8, Cond.initialized RX0, Cond.instanceMethod yX0_init, Cond.code yX0_init cX0_init 1 none]
def wsX1_init_r2 : List Cond := [Cond.methodLink RX0 3 objectInit]
def wsX1_init : List Cond := .code yX1_init cX1_init 2 none :: ((wsX1_init_r1 ++ wsX1_init_r2) ++ wsX10 ++ wsX40 ++ wsX00)
def wsX4_copyFrom : List Cond := .code yX4_copyFrom cX4_copyFrom 3 none :: ([.fieldLink RX4 9 "WinderLadders$State" "settings" "[I", .methodLink RX4 27 arraycopyName, .native arraycopyName, .static arraycopyName, .initialized "java/lang/System", .fieldLink RX4 21 "WinderLadders$State" "ladders" "[I", .fieldLink RX4 34 "WinderLadders$State" "clockCount" "I", .fieldLink RX4 17 "WinderLadders$State" "clocks" "[LWinderLadders$Clock;", .fieldLink RX4 42 "WinderLadders$State" "ladderCount" "I", .fieldLink RX4 45 "WinderLadders$State" "days" "I", .fieldLink RX4 48 "WinderLadders$State" "minutes" "I", .methodLink RX4 38 yX0_copyFrom, .instanceMethod yX0_copyFrom, .selects RX0 yX0_copyFrom yX0_copyFrom, .initialized RX0, .code yX0_copyFrom cX0_copyFrom 2 none, .fieldLink RX0 9 "WinderLadders$Clock" "house" "I", .fieldLink RX0 15 "WinderLadders$Clock" "rungs" "I", .fieldLink RX0 18 "WinderLadders$Clock" "drift" "I", .fieldLink RX0 21 "WinderLadders$Clock" "screw" "I", .fieldLink RX0 24 "WinderLadders$Clock" "off" "I", .fieldLink RX0 27 "WinderLadders$Clock" "daysSinceWound" "I", .fieldLink RX0 30 "WinderLadders$Clock" "timesWound" "I", .fieldLink RX0 33 "WinderLadders$Clock" "goes" "Z"] ++ wsX40 ++ wsX00)
def wsX1_prepare_r1 : List Cond := [Cond.fieldLink RX1 11 "WinderLadders$History" "states" "[LWinderLadders$State;", Cond.fieldLink RX1 18 "WinderLadders$History" "depth" "I", Cond.methodLink RX1 22 yX4_copyFrom, Cond.instanceMethod yX4_copyFrom, Cond.selects RX4 yX4_copyFrom yX4_copyFrom, Cond.initialized RX4, Cond.code yX4_copyFrom cX4_copyFrom 3 none, Cond.fieldLink RX4 9 "WinderLadders$State" "settings" "[I", Cond.methodLink RX4 27 arraycopyName, Cond.native arraycopyName, Cond.static arraycopyName, Cond.initialized "java/lang/System", Cond.fieldLink RX4 21 "WinderLadders$State" "ladders" "[I", Cond.fieldLink RX4 34 "WinderLadders$State" "clockCount" "I", Cond.fieldLink RX4 17 "WinderLadders$State" "clocks" "[LWinderLadders$Clock;", Cond.fieldLink RX4 42 "WinderLadders$State" "ladderCount" "I", Cond.fieldLink RX4 45 "WinderLadders$State" "days" "I", Cond.fieldLink RX4 48 "WinderLadders$State" "minutes" "I", Cond.methodLink RX4 38 yX0_copyFrom, Cond.instanceMethod yX0_copyFrom, Cond.selects RX0 yX0_copyFrom yX0_copyFrom, Cond.initialized RX0, Cond.code yX0_copyFrom cX0_copyFrom 2 none, Cond.fieldLink RX0 9 "WinderLadders$Clock" "house" "I"]
def wsX1_prepare_r2 : List Cond := [Cond.fieldLink RX0 15 "WinderLadders$Clock" "rungs" "I", Cond.fieldLink RX0 18 "WinderLadders$Clock" "drift" "I", Cond.fieldLink RX0 21 "WinderLadders$Clock" "screw" "I", Cond.fieldLink RX0 24 "WinderLadders$Clock" "off" "I", Cond.fieldLink RX0 27 "WinderLadders$Clock" "daysSinceWound" "I", Cond.fieldLink RX0 30 "WinderLadders$Clock" "timesWound" "I", Cond.fieldLink RX0 33 "WinderLadders$Clock" "goes" "Z"]
def wsX1_prepare : List Cond := .code yX1_prepare cX1_prepare 2 none :: ((wsX1_prepare_r1 ++ wsX1_prepare_r2) ++ wsX10 ++ wsX40 ++ wsX00)
def wsX1_dropOldest : List Cond := .code yX1_dropOldest cX1_dropOldest 3 none :: ([.fieldLink RX1 11 "WinderLadders$History" "states" "[LWinderLadders$State;"] ++ wsX10)
def wsX1_keepPrepared : List Cond := .code yX1_keepPrepared cX1_keepPrepared 1 none :: ([.fieldLink RX1 18 "WinderLadders$History" "depth" "I", .methodLink RX1 26 yX1_dropOldest, .instanceMethod yX1_dropOldest, .selects RX1 yX1_dropOldest yX1_dropOldest, .initialized RX1, .code yX1_dropOldest cX1_dropOldest 3 none, .fieldLink RX1 11 "WinderLadders$History" "states" "[LWinderLadders$State;"] ++ wsX10)
def wsX1_takeBack_r1 : List Cond := [Cond.fieldLink RX1 18 "WinderLadders$History" "depth" "I", Cond.fieldLink RX1 11 "WinderLadders$History" "states" "[LWinderLadders$State;", Cond.methodLink RX1 22 yX4_copyFrom, Cond.instanceMethod yX4_copyFrom, Cond.selects RX4 yX4_copyFrom yX4_copyFrom, Cond.initialized RX4, Cond.code yX4_copyFrom cX4_copyFrom 3 none, Cond.fieldLink RX4 9 "WinderLadders$State" "settings" "[I", Cond.methodLink RX4 27 arraycopyName, Cond.native arraycopyName, Cond.static arraycopyName, Cond.initialized "java/lang/System", Cond.fieldLink RX4 21 "WinderLadders$State" "ladders" "[I", Cond.fieldLink RX4 34 "WinderLadders$State" "clockCount" "I", Cond.fieldLink RX4 17 "WinderLadders$State" "clocks" "[LWinderLadders$Clock;", Cond.fieldLink RX4 42 "WinderLadders$State" "ladderCount" "I", Cond.fieldLink RX4 45 "WinderLadders$State" "days" "I", Cond.fieldLink RX4 48 "WinderLadders$State" "minutes" "I", Cond.methodLink RX4 38 yX0_copyFrom, Cond.instanceMethod yX0_copyFrom, Cond.selects RX0 yX0_copyFrom yX0_copyFrom, Cond.initialized RX0, Cond.code yX0_copyFrom cX0_copyFrom 2 none, Cond.fieldLink RX0 9 "WinderLadders$Clock" "house" "I"]
def wsX1_takeBack_r2 : List Cond := [Cond.fieldLink RX0 15 "WinderLadders$Clock" "rungs" "I", Cond.fieldLink RX0 18 "WinderLadders$Clock" "drift" "I", Cond.fieldLink RX0 21 "WinderLadders$Clock" "screw" "I", Cond.fieldLink RX0 24 "WinderLadders$Clock" "off" "I", Cond.fieldLink RX0 27 "WinderLadders$Clock" "daysSinceWound" "I", Cond.fieldLink RX0 30 "WinderLadders$Clock" "timesWound" "I", Cond.fieldLink RX0 33 "WinderLadders$Clock" "goes" "Z"]
def wsX1_takeBack : List Cond := .code yX1_takeBack cX1_takeBack 2 (some .boolean) :: ((wsX1_takeBack_r1 ++ wsX1_takeBack_r2) ++ wsX10 ++ wsX40 ++ wsX00)
def wsX3_init : List Cond := .code yX3_init cX3_init 1 none :: ([.methodLink RX3 3 objectInit, .instanceMethod objectInit, .code objectInit ⟨#[0xb1]⟩ 1 none, .arrayClass .int, .fieldLink RX3 9 "WinderLadders$Row" "numbers" "[I"] ++ wsX30)
def wsX2_init : List Cond := .code yX2_init cX2_init 1 none :: ([.methodLink RX2 3 objectInit, .instanceMethod objectInit, .code objectInit ⟨#[0xb1]⟩ 1 none, .arrayClass .char, .fieldLink RX2 9 "WinderLadders$Pad" "signs" "[C", .classLink RX2 15 RX3, .instantiable RX3 2, .initialized RX3, .fieldLink RX2 18 "WinderLadders$Pad" "numbers" "LWinderLadders$Row;", .instanceMethod yX3_init, .code yX3_init cX3_init 1 none, .methodLink RX3 3 objectInit, .arrayClass .int, .fieldLink RX3 9 "WinderLadders$Row" "numbers" "[I"] ++ wsX20 ++ wsX30)
def wsX2_append : List Cond := .code yX2_append cX2_append 2 none :: ([.fieldLink RX2 22 "WinderLadders$Pad" "length" "I", .fieldLink RX2 9 "WinderLadders$Pad" "signs" "[C"] ++ wsX20)
def wsX2_goToStart : List Cond := .code yX2_goToStart cX2_goToStart 1 none :: ([.fieldLink RX2 33 "WinderLadders$Pad" "place" "I"] ++ wsX20)
def wsX2_here : List Cond := .code yX2_here cX2_here 1 (some .char) :: ([.fieldLink RX2 33 "WinderLadders$Pad" "place" "I", .fieldLink RX2 22 "WinderLadders$Pad" "length" "I", .fieldLink RX2 9 "WinderLadders$Pad" "signs" "[C"] ++ wsX20)
def wsX2_take : List Cond := .code yX2_take cX2_take 2 (some .boolean) :: ([.fieldLink RX2 33 "WinderLadders$Pad" "place" "I", .methodLink RX2 43 yX2_here, .instanceMethod yX2_here, .selects RX2 yX2_here yX2_here, .initialized RX2, .code yX2_here cX2_here 1 (some .char), .fieldLink RX2 22 "WinderLadders$Pad" "length" "I", .fieldLink RX2 9 "WinderLadders$Pad" "signs" "[C"] ++ wsX20)
def wsX3_clear : List Cond := .code yX3_clear cX3_clear 1 none :: ([.fieldLink RX3 15 "WinderLadders$Row" "length" "I"] ++ wsX30)
def wsX2_isDigit : List Cond := .code yX2_isDigit cX2_isDigit 1 (some .boolean) :: ([])
def wsX3_add : List Cond := .code yX3_add cX3_add 2 (some .boolean) :: ([.fieldLink RX3 15 "WinderLadders$Row" "length" "I", .fieldLink RX3 9 "WinderLadders$Row" "numbers" "[I"] ++ wsX30)
def wsX2_readNumber : List Cond := .code yX2_readNumber cX2_readNumber 3 (some .boolean) :: ([.fieldLink RX2 33 "WinderLadders$Pad" "place" "I", .fieldLink RX2 18 "WinderLadders$Pad" "numbers" "LWinderLadders$Row;", .methodLink RX2 43 yX2_here, .instanceMethod yX2_here, .selects RX2 yX2_here yX2_here, .initialized RX2, .code yX2_here cX2_here 1 (some .char), .fieldLink RX2 22 "WinderLadders$Pad" "length" "I", .fieldLink RX2 9 "WinderLadders$Pad" "signs" "[C", .methodLink RX2 60 yX2_isDigit, .static yX2_isDigit, .code yX2_isDigit cX2_isDigit 1 (some .boolean), .methodLink RX2 63 yX3_add, .instanceMethod yX3_add, .selects RX3 yX3_add yX3_add, .initialized RX3, .code yX3_add cX3_add 2 (some .boolean), .fieldLink RX3 15 "WinderLadders$Row" "length" "I", .fieldLink RX3 9 "WinderLadders$Row" "numbers" "[I"] ++ wsX20 ++ wsX30)
def wsX2_readValue_r1 : List Cond := [Cond.methodLink RX2 36 yX2_take, Cond.instanceMethod yX2_take, Cond.selects RX2 yX2_take yX2_take, Cond.initialized RX2, Cond.code yX2_take cX2_take 2 (some .boolean), Cond.fieldLink RX2 33 "WinderLadders$Pad" "place" "I", Cond.methodLink RX2 43 yX2_here, Cond.instanceMethod yX2_here, Cond.selects RX2 yX2_here yX2_here, Cond.code yX2_here cX2_here 1 (some .char), Cond.fieldLink RX2 22 "WinderLadders$Pad" "length" "I", Cond.fieldLink RX2 9 "WinderLadders$Pad" "signs" "[C", Cond.methodLink RX2 50 yX2_readNumber, Cond.instanceMethod yX2_readNumber, Cond.selects RX2 yX2_readNumber yX2_readNumber, Cond.code yX2_readNumber cX2_readNumber 3 (some .boolean), Cond.fieldLink RX2 18 "WinderLadders$Pad" "numbers" "LWinderLadders$Row;", Cond.methodLink RX2 60 yX2_isDigit, Cond.static yX2_isDigit, Cond.code yX2_isDigit cX2_isDigit 1 (some .boolean), Cond.methodLink RX2 63 yX3_add, Cond.instanceMethod yX3_add, Cond.selects RX3 yX3_add yX3_add, Cond.initialized RX3]
def wsX2_readValue_r2 : List Cond := [Cond.code yX3_add cX3_add 2 (some .boolean), Cond.fieldLink RX3 15 "WinderLadders$Row" "length" "I", Cond.fieldLink RX3 9 "WinderLadders$Row" "numbers" "[I"]
def wsX2_readValue : List Cond := .code yX2_readValue cX2_readValue 1 (some .boolean) :: ((wsX2_readValue_r1 ++ wsX2_readValue_r2) ++ wsX20 ++ wsX30)
def wsX2_readNumbers_r1 : List Cond := [Cond.methodLink RX2 50 yX2_readNumber, Cond.instanceMethod yX2_readNumber, Cond.selects RX2 yX2_readNumber yX2_readNumber, Cond.initialized RX2, Cond.code yX2_readNumber cX2_readNumber 3 (some .boolean), Cond.fieldLink RX2 33 "WinderLadders$Pad" "place" "I", Cond.fieldLink RX2 18 "WinderLadders$Pad" "numbers" "LWinderLadders$Row;", Cond.methodLink RX2 43 yX2_here, Cond.instanceMethod yX2_here, Cond.selects RX2 yX2_here yX2_here, Cond.code yX2_here cX2_here 1 (some .char), Cond.fieldLink RX2 22 "WinderLadders$Pad" "length" "I", Cond.fieldLink RX2 9 "WinderLadders$Pad" "signs" "[C", Cond.methodLink RX2 60 yX2_isDigit, Cond.static yX2_isDigit, Cond.code yX2_isDigit cX2_isDigit 1 (some .boolean), Cond.methodLink RX2 63 yX3_add, Cond.instanceMethod yX3_add, Cond.selects RX3 yX3_add yX3_add, Cond.initialized RX3, Cond.code yX3_add cX3_add 2 (some .boolean), Cond.fieldLink RX3 15 "WinderLadders$Row" "length" "I", Cond.fieldLink RX3 9 "WinderLadders$Row" "numbers" "[I", Cond.methodLink RX2 36 yX2_take]
def wsX2_readNumbers_r2 : List Cond := [Cond.instanceMethod yX2_take, Cond.selects RX2 yX2_take yX2_take, Cond.code yX2_take cX2_take 2 (some .boolean)]
def wsX2_readNumbers : List Cond := .code yX2_readNumbers cX2_readNumbers 2 (some .boolean) :: ((wsX2_readNumbers_r1 ++ wsX2_readNumbers_r2) ++ wsX20 ++ wsX30)
def wsX2_readNext_r1 : List Cond := [Cond.fieldLink RX2 33 "WinderLadders$Pad" "place" "I", Cond.fieldLink RX2 18 "WinderLadders$Pad" "numbers" "LWinderLadders$Row;", Cond.fieldLink RX2 47 "WinderLadders$Pad" "kind" "I", Cond.methodLink RX2 36 yX2_take, Cond.instanceMethod yX2_take, Cond.selects RX2 yX2_take yX2_take, Cond.initialized RX2, Cond.code yX2_take cX2_take 2 (some .boolean), Cond.methodLink RX2 43 yX2_here, Cond.instanceMethod yX2_here, Cond.selects RX2 yX2_here yX2_here, Cond.code yX2_here cX2_here 1 (some .char), Cond.fieldLink RX2 22 "WinderLadders$Pad" "length" "I", Cond.fieldLink RX2 9 "WinderLadders$Pad" "signs" "[C", Cond.methodLink RX2 40 yX3_clear, Cond.instanceMethod yX3_clear, Cond.selects RX3 yX3_clear yX3_clear, Cond.initialized RX3, Cond.code yX3_clear cX3_clear 1 none, Cond.fieldLink RX3 15 "WinderLadders$Row" "length" "I", Cond.methodLink RX2 50 yX2_readNumber, Cond.instanceMethod yX2_readNumber, Cond.selects RX2 yX2_readNumber yX2_readNumber, Cond.code yX2_readNumber cX2_readNumber 3 (some .boolean)]
def wsX2_readNext_r2 : List Cond := [Cond.methodLink RX2 60 yX2_isDigit, Cond.static yX2_isDigit, Cond.code yX2_isDigit cX2_isDigit 1 (some .boolean), Cond.methodLink RX2 63 yX3_add, Cond.instanceMethod yX3_add, Cond.selects RX3 yX3_add yX3_add, Cond.code yX3_add cX3_add 2 (some .boolean), Cond.fieldLink RX3 9 "WinderLadders$Row" "numbers" "[I", Cond.methodLink RX2 54 yX2_readValue, Cond.instanceMethod yX2_readValue, Cond.selects RX2 yX2_readValue yX2_readValue, Cond.code yX2_readValue cX2_readValue 1 (some .boolean), Cond.methodLink RX2 57 yX2_readNumbers, Cond.instanceMethod yX2_readNumbers, Cond.selects RX2 yX2_readNumbers yX2_readNumbers, Cond.code yX2_readNumbers cX2_readNumbers 2 (some .boolean)]
def wsX2_readNext : List Cond := .code yX2_readNext cX2_readNext 1 (some .boolean) :: ((wsX2_readNext_r1 ++ wsX2_readNext_r2) ++ wsX20 ++ wsX30)
def wsX2_findFault_r1 : List Cond := [Cond.fieldLink RX2 33 "WinderLadders$Pad" "place" "I", Cond.fieldLink RX2 22 "WinderLadders$Pad" "length" "I", Cond.methodLink RX2 26 yX2_goToStart, Cond.instanceMethod yX2_goToStart, Cond.selects RX2 yX2_goToStart yX2_goToStart, Cond.initialized RX2, Cond.code yX2_goToStart cX2_goToStart 1 none, Cond.methodLink RX2 29 yX2_readNext, Cond.instanceMethod yX2_readNext, Cond.selects RX2 yX2_readNext yX2_readNext, Cond.code yX2_readNext cX2_readNext 1 (some .boolean), Cond.fieldLink RX2 18 "WinderLadders$Pad" "numbers" "LWinderLadders$Row;", Cond.fieldLink RX2 47 "WinderLadders$Pad" "kind" "I", Cond.methodLink RX2 36 yX2_take, Cond.instanceMethod yX2_take, Cond.selects RX2 yX2_take yX2_take, Cond.code yX2_take cX2_take 2 (some .boolean), Cond.methodLink RX2 43 yX2_here, Cond.instanceMethod yX2_here, Cond.selects RX2 yX2_here yX2_here, Cond.code yX2_here cX2_here 1 (some .char), Cond.fieldLink RX2 9 "WinderLadders$Pad" "signs" "[C", Cond.methodLink RX2 40 yX3_clear, Cond.instanceMethod yX3_clear]
def wsX2_findFault_r2 : List Cond := [Cond.selects RX3 yX3_clear yX3_clear, Cond.initialized RX3, Cond.code yX3_clear cX3_clear 1 none, Cond.fieldLink RX3 15 "WinderLadders$Row" "length" "I", Cond.methodLink RX2 50 yX2_readNumber, Cond.instanceMethod yX2_readNumber, Cond.selects RX2 yX2_readNumber yX2_readNumber, Cond.code yX2_readNumber cX2_readNumber 3 (some .boolean), Cond.methodLink RX2 60 yX2_isDigit, Cond.static yX2_isDigit, Cond.code yX2_isDigit cX2_isDigit 1 (some .boolean), Cond.methodLink RX2 63 yX3_add, Cond.instanceMethod yX3_add, Cond.selects RX3 yX3_add yX3_add, Cond.code yX3_add cX3_add 2 (some .boolean), Cond.fieldLink RX3 9 "WinderLadders$Row" "numbers" "[I", Cond.methodLink RX2 54 yX2_readValue, Cond.instanceMethod yX2_readValue, Cond.selects RX2 yX2_readValue yX2_readValue, Cond.code yX2_readValue cX2_readValue 1 (some .boolean), Cond.methodLink RX2 57 yX2_readNumbers, Cond.instanceMethod yX2_readNumbers, Cond.selects RX2 yX2_readNumbers yX2_readNumbers, Cond.code yX2_readNumbers cX2_readNumbers 2 (some .boolean)]
def wsX2_findFault : List Cond := .code yX2_findFault cX2_findFault 2 (some .int) :: ((wsX2_findFault_r1 ++ wsX2_findFault_r2) ++ wsX20 ++ wsX30)
def wsX3_at : List Cond := .code yX3_at cX3_at 2 (some .int) :: ([.fieldLink RX3 15 "WinderLadders$Row" "length" "I", .fieldLink RX3 9 "WinderLadders$Row" "numbers" "[I"] ++ wsX30)
def wsX3_turnRound : List Cond := .code yX3_turnRound cX3_turnRound 3 none :: ([.fieldLink RX3 15 "WinderLadders$Row" "length" "I", .fieldLink RX3 9 "WinderLadders$Row" "numbers" "[I"] ++ wsX30)
def wsX4_hasClock : List Cond := .code yX4_hasClock cX4_hasClock 2 (some .boolean) :: ([.fieldLink RX4 34 "WinderLadders$State" "clockCount" "I"] ++ wsX40)
def wsX4_hasLadder : List Cond := .code yX4_hasLadder cX4_hasLadder 2 (some .boolean) :: ([.fieldLink RX4 42 "WinderLadders$State" "ladderCount" "I"] ++ wsX40)
def wsX5_isWithin : List Cond := .code yX5_isWithin cX5_isWithin 3 (some .boolean) :: ([])
def wsX4_replaceSetting : List Cond := .code yX4_replaceSetting cX4_replaceSetting 4 (some .int) :: ([.fieldLink RX4 9 "WinderLadders$State" "settings" "[I", .static yX5_isWithin, .initialized RX5, .code yX5_isWithin cX5_isWithin 3 (some .boolean)] ++ wsX40)
def wsX4_addClock : List Cond := .code yX4_addClock cX4_addClock 4 (some .int) :: ([.fieldLink RX4 34 "WinderLadders$State" "clockCount" "I", .fieldLink RX4 17 "WinderLadders$State" "clocks" "[LWinderLadders$Clock;", .static yX5_isWithin, .initialized RX5, .code yX5_isWithin cX5_isWithin 3 (some .boolean), .methodLink RX4 58 yX0_begin, .instanceMethod yX0_begin, .selects RX0 yX0_begin yX0_begin, .initialized RX0, .code yX0_begin cX0_begin 4 none, .fieldLink RX0 9 "WinderLadders$Clock" "house" "I", .fieldLink RX0 15 "WinderLadders$Clock" "rungs" "I", .fieldLink RX0 18 "WinderLadders$Clock" "drift" "I", .fieldLink RX0 21 "WinderLadders$Clock" "screw" "I", .fieldLink RX0 24 "WinderLadders$Clock" "off" "I", .fieldLink RX0 27 "WinderLadders$Clock" "daysSinceWound" "I", .fieldLink RX0 30 "WinderLadders$Clock" "timesWound" "I", .fieldLink RX0 33 "WinderLadders$Clock" "goes" "Z"] ++ wsX40 ++ wsX00)
def wsX4_addLadder : List Cond := .code yX4_addLadder cX4_addLadder 2 (some .int) :: ([.fieldLink RX4 42 "WinderLadders$State" "ladderCount" "I", .fieldLink RX4 21 "WinderLadders$State" "ladders" "[I", .static yX5_isWithin, .initialized RX5, .code yX5_isWithin cX5_isWithin 3 (some .boolean)] ++ wsX40)
def wsX4_turnScrew : List Cond := .code yX4_turnScrew cX4_turnScrew 4 (some .int) :: ([.fieldLink RX4 17 "WinderLadders$State" "clocks" "[LWinderLadders$Clock;", .fieldLink RX4 66 "WinderLadders$Clock" "screw" "I", .methodLink RX4 62 yX4_hasClock, .instanceMethod yX4_hasClock, .selects RX4 yX4_hasClock yX4_hasClock, .initialized RX4, .code yX4_hasClock cX4_hasClock 2 (some .boolean), .fieldLink RX4 34 "WinderLadders$State" "clockCount" "I", .static yX5_isWithin, .initialized RX5, .code yX5_isWithin cX5_isWithin 3 (some .boolean)] ++ wsX40 ++ wsX00)
def wsX4_numberThatGo : List Cond := .code yX4_numberThatGo cX4_numberThatGo 3 (some .int) :: ([.fieldLink RX4 34 "WinderLadders$State" "clockCount" "I", .fieldLink RX4 17 "WinderLadders$State" "clocks" "[LWinderLadders$Clock;", .fieldLink RX4 77 "WinderLadders$Clock" "goes" "Z"] ++ wsX40 ++ wsX00)
def wsX4_passDays_r1 : List Cond := [Cond.fieldLink RX4 45 "WinderLadders$State" "days" "I", Cond.fieldLink RX4 34 "WinderLadders$State" "clockCount" "I", Cond.fieldLink RX4 17 "WinderLadders$State" "clocks" "[LWinderLadders$Clock;", Cond.fieldLink RX4 9 "WinderLadders$State" "settings" "[I", Cond.static yX5_isWithin, Cond.initialized RX5, Cond.code yX5_isWithin cX5_isWithin 3 (some .boolean), Cond.methodLink RX4 69 yX0_passDay, Cond.instanceMethod yX0_passDay, Cond.selects RX0 yX0_passDay yX0_passDay, Cond.initialized RX0, Cond.code yX0_passDay cX0_passDay 2 none, Cond.fieldLink RX0 33 "WinderLadders$Clock" "goes" "Z", Cond.fieldLink RX0 24 "WinderLadders$Clock" "off" "I", Cond.fieldLink RX0 27 "WinderLadders$Clock" "daysSinceWound" "I", Cond.constant RX0 47 (43200), Cond.methodLink RX0 43 yX0_driftWithScrew, Cond.instanceMethod yX0_driftWithScrew, Cond.selects RX0 yX0_driftWithScrew yX0_driftWithScrew, Cond.code yX0_driftWithScrew cX0_driftWithScrew 1 (some .int), Cond.fieldLink RX0 18 "WinderLadders$Clock" "drift" "I", Cond.fieldLink RX0 21 "WinderLadders$Clock" "screw" "I", Cond.methodLink RX4 73 yX4_numberThatGo, Cond.instanceMethod yX4_numberThatGo]
def wsX4_passDays_r2 : List Cond := [Cond.selects RX4 yX4_numberThatGo yX4_numberThatGo, Cond.initialized RX4, Cond.code yX4_numberThatGo cX4_numberThatGo 3 (some .int), Cond.fieldLink RX4 77 "WinderLadders$Clock" "goes" "Z"]
def wsX4_passDays : List Cond := .code yX4_passDays cX4_passDays 4 (some .int) :: ((wsX4_passDays_r1 ++ wsX4_passDays_r2) ++ wsX40 ++ wsX00)
def wsX4_changeClocks : List Cond := .code yX4_changeClocks cX4_changeClocks 4 (some .int) :: ([.fieldLink RX4 34 "WinderLadders$State" "clockCount" "I", .fieldLink RX4 17 "WinderLadders$State" "clocks" "[LWinderLadders$Clock;", .fieldLink RX4 77 "WinderLadders$Clock" "goes" "Z", .fieldLink RX4 81 "WinderLadders$Clock" "off" "I", .methodLink RX4 73 yX4_numberThatGo, .instanceMethod yX4_numberThatGo, .selects RX4 yX4_numberThatGo yX4_numberThatGo, .initialized RX4, .code yX4_numberThatGo cX4_numberThatGo 3 (some .int)] ++ wsX40 ++ wsX00)
def wsX4_ladderNeeded : List Cond := .code yX4_ladderNeeded cX4_ladderNeeded 5 (some .int) :: ([.fieldLink RX4 116 "WinderLadders$Clock" "rungs" "I", .fieldLink RX4 42 "WinderLadders$State" "ladderCount" "I", .fieldLink RX4 21 "WinderLadders$State" "ladders" "[I"] ++ wsX00 ++ wsX40)
def wsX4_canBeWound : List Cond := .code yX4_canBeWound cX4_canBeWound 2 (some .boolean) :: ([.fieldLink RX4 116 "WinderLadders$Clock" "rungs" "I", .methodLink RX4 112 yX4_ladderNeeded, .instanceMethod yX4_ladderNeeded, .selects RX4 yX4_ladderNeeded yX4_ladderNeeded, .initialized RX4, .code yX4_ladderNeeded cX4_ladderNeeded 5 (some .int), .fieldLink RX4 42 "WinderLadders$State" "ladderCount" "I", .fieldLink RX4 21 "WinderLadders$State" "ladders" "[I"] ++ wsX00 ++ wsX40)
def wsX4_minutesOf_r1 : List Cond := [Cond.fieldLink RX4 88 "WinderLadders$Row" "length" "I", Cond.fieldLink RX4 17 "WinderLadders$State" "clocks" "[LWinderLadders$Clock;", Cond.fieldLink RX4 104 "WinderLadders$Clock" "house" "I", Cond.methodLink RX4 107 Lib.Math.abs.name, Cond.static Lib.Math.abs.name, Cond.initialized "java/lang/Math", Cond.code Lib.Math.abs.name Lib.Math.abs.code 1 (some .int), Cond.fieldLink RX4 9 "WinderLadders$State" "settings" "[I", Cond.methodLink RX4 93 yX3_at, Cond.instanceMethod yX3_at, Cond.selects RX3 yX3_at yX3_at, Cond.initialized RX3, Cond.code yX3_at cX3_at 2 (some .int), Cond.fieldLink RX3 15 "WinderLadders$Row" "length" "I", Cond.fieldLink RX3 9 "WinderLadders$Row" "numbers" "[I", Cond.methodLink RX4 62 yX4_hasClock, Cond.instanceMethod yX4_hasClock, Cond.selects RX4 yX4_hasClock yX4_hasClock, Cond.initialized RX4, Cond.code yX4_hasClock cX4_hasClock 2 (some .boolean), Cond.fieldLink RX4 34 "WinderLadders$State" "clockCount" "I", Cond.methodLink RX4 112 yX4_ladderNeeded, Cond.instanceMethod yX4_ladderNeeded, Cond.selects RX4 yX4_ladderNeeded yX4_ladderNeeded]
def wsX4_minutesOf_r2 : List Cond := [Cond.code yX4_ladderNeeded cX4_ladderNeeded 5 (some .int), Cond.fieldLink RX4 116 "WinderLadders$Clock" "rungs" "I", Cond.fieldLink RX4 42 "WinderLadders$State" "ladderCount" "I", Cond.fieldLink RX4 21 "WinderLadders$State" "ladders" "[I", Cond.methodLink RX4 97 yX4_canBeWound, Cond.instanceMethod yX4_canBeWound, Cond.selects RX4 yX4_canBeWound yX4_canBeWound, Cond.code yX4_canBeWound cX4_canBeWound 2 (some .boolean)]
def wsX4_minutesOf : List Cond := .code yX4_minutesOf cX4_minutesOf 10 (some .int) :: ((wsX4_minutesOf_r1 ++ wsX4_minutesOf_r2) ++ wsX30 ++ wsX40 ++ wsX00)
def wsX4_walkBeat_r1 : List Cond := [Cond.fieldLink RX4 88 "WinderLadders$Row" "length" "I", Cond.fieldLink RX4 17 "WinderLadders$State" "clocks" "[LWinderLadders$Clock;", Cond.fieldLink RX4 9 "WinderLadders$State" "settings" "[I", Cond.fieldLink RX4 48 "WinderLadders$State" "minutes" "I", Cond.methodLink RX4 84 yX4_minutesOf, Cond.instanceMethod yX4_minutesOf, Cond.selects RX4 yX4_minutesOf yX4_minutesOf, Cond.initialized RX4, Cond.code yX4_minutesOf cX4_minutesOf 10 (some .int), Cond.fieldLink RX4 104 "WinderLadders$Clock" "house" "I", Cond.methodLink RX4 107 Lib.Math.abs.name, Cond.static Lib.Math.abs.name, Cond.initialized "java/lang/Math", Cond.code Lib.Math.abs.name Lib.Math.abs.code 1 (some .int), Cond.methodLink RX4 93 yX3_at, Cond.instanceMethod yX3_at, Cond.selects RX3 yX3_at yX3_at, Cond.initialized RX3, Cond.code yX3_at cX3_at 2 (some .int), Cond.fieldLink RX3 15 "WinderLadders$Row" "length" "I", Cond.fieldLink RX3 9 "WinderLadders$Row" "numbers" "[I", Cond.methodLink RX4 62 yX4_hasClock, Cond.instanceMethod yX4_hasClock, Cond.selects RX4 yX4_hasClock yX4_hasClock]
def wsX4_walkBeat_r2 : List Cond := [Cond.code yX4_hasClock cX4_hasClock 2 (some .boolean), Cond.fieldLink RX4 34 "WinderLadders$State" "clockCount" "I", Cond.methodLink RX4 112 yX4_ladderNeeded, Cond.instanceMethod yX4_ladderNeeded, Cond.selects RX4 yX4_ladderNeeded yX4_ladderNeeded, Cond.code yX4_ladderNeeded cX4_ladderNeeded 5 (some .int), Cond.fieldLink RX4 116 "WinderLadders$Clock" "rungs" "I", Cond.fieldLink RX4 42 "WinderLadders$State" "ladderCount" "I", Cond.fieldLink RX4 21 "WinderLadders$State" "ladders" "[I", Cond.methodLink RX4 97 yX4_canBeWound, Cond.instanceMethod yX4_canBeWound, Cond.selects RX4 yX4_canBeWound yX4_canBeWound, Cond.code yX4_canBeWound cX4_canBeWound 2 (some .boolean), Cond.methodLink RX4 101 yX0_windAndSet, Cond.instanceMethod yX0_windAndSet, Cond.selects RX0 yX0_windAndSet yX0_windAndSet, Cond.initialized RX0, Cond.code yX0_windAndSet cX0_windAndSet 2 none, Cond.fieldLink RX0 33 "WinderLadders$Clock" "goes" "Z", Cond.fieldLink RX0 24 "WinderLadders$Clock" "off" "I", Cond.fieldLink RX0 27 "WinderLadders$Clock" "daysSinceWound" "I", Cond.fieldLink RX0 30 "WinderLadders$Clock" "timesWound" "I", Cond.methodLink RX0 48 yX0_isOffBeyond, Cond.instanceMethod yX0_isOffBeyond]
def wsX4_walkBeat_r3 : List Cond := [Cond.selects RX0 yX0_isOffBeyond yX0_isOffBeyond, Cond.code yX0_isOffBeyond cX0_isOffBeyond 2 (some .boolean), Cond.methodLink RX0 37 Lib.Math.abs.name, Cond.methodLink RX0 52 yX0_turnByRule, Cond.instanceMethod yX0_turnByRule, Cond.selects RX0 yX0_turnByRule yX0_turnByRule, Cond.code yX0_turnByRule cX0_turnByRule 2 none, Cond.fieldLink RX0 21 "WinderLadders$Clock" "screw" "I", Cond.methodLink RX0 43 yX0_driftWithScrew, Cond.instanceMethod yX0_driftWithScrew, Cond.selects RX0 yX0_driftWithScrew yX0_driftWithScrew, Cond.code yX0_driftWithScrew cX0_driftWithScrew 1 (some .int), Cond.fieldLink RX0 18 "WinderLadders$Clock" "drift" "I"]
def wsX4_walkBeat : List Cond := .code yX4_walkBeat cX4_walkBeat 5 (some .int) :: ((wsX4_walkBeat_r1 ++ (wsX4_walkBeat_r2 ++ wsX4_walkBeat_r3)) ++ wsX30 ++ wsX40 ++ wsX00)
def wsX4_setOfStill : List Cond := .code yX4_setOfStill cX4_setOfStill 3 (some .int) :: ([.fieldLink RX4 34 "WinderLadders$State" "clockCount" "I", .fieldLink RX4 17 "WinderLadders$State" "clocks" "[LWinderLadders$Clock;", .fieldLink RX4 77 "WinderLadders$Clock" "goes" "Z"] ++ wsX40 ++ wsX00)
def wsX4_numberOffBeyondTold : List Cond := .code yX4_numberOffBeyondTold cX4_numberOffBeyondTold 3 (some .int) :: ([.fieldLink RX4 34 "WinderLadders$State" "clockCount" "I", .fieldLink RX4 17 "WinderLadders$State" "clocks" "[LWinderLadders$Clock;", .fieldLink RX4 9 "WinderLadders$State" "settings" "[I", .methodLink RX4 119 yX0_isOffBeyond, .instanceMethod yX0_isOffBeyond, .selects RX0 yX0_isOffBeyond yX0_isOffBeyond, .initialized RX0, .code yX0_isOffBeyond cX0_isOffBeyond 2 (some .boolean), .fieldLink RX0 24 "WinderLadders$Clock" "off" "I", .methodLink RX0 37 Lib.Math.abs.name, .static Lib.Math.abs.name, .initialized "java/lang/Math", .code Lib.Math.abs.name Lib.Math.abs.code 1 (some .int)] ++ wsX40 ++ wsX00)
def wsX4_numberThatCannotBeWound : List Cond := .code yX4_numberThatCannotBeWound cX4_numberThatCannotBeWound 3 (some .int) :: ([.fieldLink RX4 34 "WinderLadders$State" "clockCount" "I", .fieldLink RX4 17 "WinderLadders$State" "clocks" "[LWinderLadders$Clock;", .methodLink RX4 97 yX4_canBeWound, .instanceMethod yX4_canBeWound, .selects RX4 yX4_canBeWound yX4_canBeWound, .initialized RX4, .code yX4_canBeWound cX4_canBeWound 2 (some .boolean), .fieldLink RX4 116 "WinderLadders$Clock" "rungs" "I", .methodLink RX4 112 yX4_ladderNeeded, .instanceMethod yX4_ladderNeeded, .selects RX4 yX4_ladderNeeded yX4_ladderNeeded, .code yX4_ladderNeeded cX4_ladderNeeded 5 (some .int), .fieldLink RX4 42 "WinderLadders$State" "ladderCount" "I", .fieldLink RX4 21 "WinderLadders$State" "ladders" "[I"] ++ wsX40 ++ wsX00)
def wsX4_timesWoundInAll : List Cond := .code yX4_timesWoundInAll cX4_timesWoundInAll 3 (some .int) :: ([.fieldLink RX4 34 "WinderLadders$State" "clockCount" "I", .fieldLink RX4 17 "WinderLadders$State" "clocks" "[LWinderLadders$Clock;", .fieldLink RX4 122 "WinderLadders$Clock" "timesWound" "I"] ++ wsX40 ++ wsX00)
def wsX4_rungsOutOfReach : List Cond := .code yX4_rungsOutOfReach cX4_rungsOutOfReach 3 (some .int) :: ([.fieldLink RX4 34 "WinderLadders$State" "clockCount" "I", .fieldLink RX4 17 "WinderLadders$State" "clocks" "[LWinderLadders$Clock;", .fieldLink RX4 116 "WinderLadders$Clock" "rungs" "I", .methodLink RX4 125 Lib.Math.max.name, .static Lib.Math.max.name, .initialized "java/lang/Math", .code Lib.Math.max.name Lib.Math.max.code 2 (some .int), .methodLink RX4 97 yX4_canBeWound, .instanceMethod yX4_canBeWound, .selects RX4 yX4_canBeWound yX4_canBeWound, .initialized RX4, .code yX4_canBeWound cX4_canBeWound 2 (some .boolean), .methodLink RX4 112 yX4_ladderNeeded, .instanceMethod yX4_ladderNeeded, .selects RX4 yX4_ladderNeeded yX4_ladderNeeded, .code yX4_ladderNeeded cX4_ladderNeeded 5 (some .int), .fieldLink RX4 42 "WinderLadders$State" "ladderCount" "I", .fieldLink RX4 21 "WinderLadders$State" "ladders" "[I"] ++ wsX40 ++ wsX00)
def wsX4_daysUntilOff_r1 : List Cond := [Cond.fieldLink RX4 17 "WinderLadders$State" "clocks" "[LWinderLadders$Clock;", Cond.fieldLink RX4 9 "WinderLadders$State" "settings" "[I", Cond.methodLink RX4 62 yX4_hasClock, Cond.instanceMethod yX4_hasClock, Cond.selects RX4 yX4_hasClock yX4_hasClock, Cond.initialized RX4, Cond.code yX4_hasClock cX4_hasClock 2 (some .boolean), Cond.fieldLink RX4 34 "WinderLadders$State" "clockCount" "I", Cond.methodLink RX4 129 yX0_daysUntilOff, Cond.instanceMethod yX0_daysUntilOff, Cond.selects RX0 yX0_daysUntilOff yX0_daysUntilOff, Cond.initialized RX0, Cond.code yX0_daysUntilOff cX0_daysUntilOff 5 (some .int), Cond.fieldLink RX0 27 "WinderLadders$Clock" "daysSinceWound" "I", Cond.methodLink RX0 55 Lib.Math.max.name, Cond.static Lib.Math.max.name, Cond.initialized "java/lang/Math", Cond.code Lib.Math.max.name Lib.Math.max.code 2 (some .int), Cond.fieldLink RX0 24 "WinderLadders$Clock" "off" "I", Cond.methodLink RX0 37 Lib.Math.abs.name, Cond.static Lib.Math.abs.name, Cond.code Lib.Math.abs.name Lib.Math.abs.code 1 (some .int), Cond.methodLink RX0 48 yX0_isOffBeyond, Cond.instanceMethod yX0_isOffBeyond]
def wsX4_daysUntilOff_r2 : List Cond := [Cond.selects RX0 yX0_isOffBeyond yX0_isOffBeyond, Cond.code yX0_isOffBeyond cX0_isOffBeyond 2 (some .boolean), Cond.methodLink RX0 43 yX0_driftWithScrew, Cond.instanceMethod yX0_driftWithScrew, Cond.selects RX0 yX0_driftWithScrew yX0_driftWithScrew, Cond.code yX0_driftWithScrew cX0_driftWithScrew 1 (some .int), Cond.fieldLink RX0 18 "WinderLadders$Clock" "drift" "I", Cond.fieldLink RX0 21 "WinderLadders$Clock" "screw" "I"]
def wsX4_daysUntilOff : List Cond := .code yX4_daysUntilOff cX4_daysUntilOff 2 (some .int) :: ((wsX4_daysUntilOff_r1 ++ wsX4_daysUntilOff_r2) ++ wsX40 ++ wsX00)
def wsX4_tellDaysUntilOff_r1 : List Cond := [Cond.fieldLink RX4 34 "WinderLadders$State" "clockCount" "I", Cond.methodLink RX4 132 yX4_daysUntilOff, Cond.instanceMethod yX4_daysUntilOff, Cond.selects RX4 yX4_daysUntilOff yX4_daysUntilOff, Cond.initialized RX4, Cond.code yX4_daysUntilOff cX4_daysUntilOff 2 (some .int), Cond.fieldLink RX4 17 "WinderLadders$State" "clocks" "[LWinderLadders$Clock;", Cond.fieldLink RX4 9 "WinderLadders$State" "settings" "[I", Cond.methodLink RX4 62 yX4_hasClock, Cond.instanceMethod yX4_hasClock, Cond.selects RX4 yX4_hasClock yX4_hasClock, Cond.code yX4_hasClock cX4_hasClock 2 (some .boolean), Cond.methodLink RX4 129 yX0_daysUntilOff, Cond.instanceMethod yX0_daysUntilOff, Cond.selects RX0 yX0_daysUntilOff yX0_daysUntilOff, Cond.initialized RX0, Cond.code yX0_daysUntilOff cX0_daysUntilOff 5 (some .int), Cond.fieldLink RX0 27 "WinderLadders$Clock" "daysSinceWound" "I", Cond.methodLink RX0 55 Lib.Math.max.name, Cond.static Lib.Math.max.name, Cond.initialized "java/lang/Math", Cond.code Lib.Math.max.name Lib.Math.max.code 2 (some .int), Cond.fieldLink RX0 24 "WinderLadders$Clock" "off" "I", Cond.methodLink RX0 37 Lib.Math.abs.name]
def wsX4_tellDaysUntilOff_r2 : List Cond := [Cond.static Lib.Math.abs.name, Cond.code Lib.Math.abs.name Lib.Math.abs.code 1 (some .int), Cond.methodLink RX0 48 yX0_isOffBeyond, Cond.instanceMethod yX0_isOffBeyond, Cond.selects RX0 yX0_isOffBeyond yX0_isOffBeyond, Cond.code yX0_isOffBeyond cX0_isOffBeyond 2 (some .boolean), Cond.methodLink RX0 43 yX0_driftWithScrew, Cond.instanceMethod yX0_driftWithScrew, Cond.selects RX0 yX0_driftWithScrew yX0_driftWithScrew, Cond.code yX0_driftWithScrew cX0_driftWithScrew 1 (some .int), Cond.fieldLink RX0 18 "WinderLadders$Clock" "drift" "I", Cond.fieldLink RX0 21 "WinderLadders$Clock" "screw" "I"]
def wsX4_tellDaysUntilOff : List Cond := .code yX4_tellDaysUntilOff cX4_tellDaysUntilOff 3 none :: ((wsX4_tellDaysUntilOff_r1 ++ wsX4_tellDaysUntilOff_r2) ++ wsX40 ++ wsX00)
def wsX4_rankOf : List Cond := .code yX4_rankOf cX4_rankOf 5 (some .int) :: ([.fieldLink RX4 34 "WinderLadders$State" "clockCount" "I", .methodLink RX4 62 yX4_hasClock, .instanceMethod yX4_hasClock, .selects RX4 yX4_hasClock yX4_hasClock, .initialized RX4, .code yX4_hasClock cX4_hasClock 2 (some .boolean)] ++ wsX40)
def wsX5_init_r1 : List Cond := [Cond.methodLink RX5 3 objectInit, Cond.instanceMethod objectInit, Cond.code objectInit ⟨#[0xb1]⟩ 1 none, Cond.classLink RX5 9 RX4, Cond.instantiable RX4 7, Cond.initialized RX4, Cond.fieldLink RX5 12 "WinderLadders" "now" "LWinderLadders$State;", Cond.classLink RX5 16 RX1, Cond.instantiable RX1 2, Cond.initialized RX1, Cond.fieldLink RX5 19 "WinderLadders" "history" "LWinderLadders$History;", Cond.fieldLink RX5 23 "WinderLadders" "slots" "[LWinderLadders$State;", Cond.arrayClass .boolean, Cond.fieldLink RX5 27 "WinderLadders" "slotHolds" "[Z", Cond.classLink RX5 31 RX2, Cond.instantiable RX2 5, Cond.initialized RX2, Cond.fieldLink RX5 34 "WinderLadders" "pad" "LWinderLadders$Pad;", Cond.classLink RX5 38 RX3, Cond.instantiable RX3 2, Cond.initialized RX3, Cond.fieldLink RX5 41 "WinderLadders" "row" "LWinderLadders$Row;", Cond.arrayClass .int, Cond.fieldLink RX5 45 "WinderLadders" "lasting" "[I"]
def wsX5_init_r2 : List Cond := [Cond.methodLink RX5 11 yX4_init, Cond.instanceMethod yX4_init, Cond.code yX4_init cX4_init 2 none, Cond.methodLink RX4 3 objectInit, Cond.fieldLink RX4 9 "WinderLadders$State" "settings" "[I", Cond.classLink RX4 15 RX0, Cond.fieldLink RX4 17 "WinderLadders$State" "clocks" "[LWinderLadders$Clock;", Cond.fieldLink RX4 21 "WinderLadders$State" "ladders" "[I", Cond.methodLink RX4 27 arraycopyName, Cond.native arraycopyName, Cond.static arraycopyName, Cond.initialized "java/lang/System", Cond.instantiable RX0 8, Cond.initialized RX0, Cond.instanceMethod yX0_init, Cond.code yX0_init cX0_init 1 none, Cond.methodLink RX0 3 objectInit, Cond.methodLink RX5 18 yX1_init, Cond.instanceMethod yX1_init, Cond.code yX1_init cX1_init 2 none, Cond.methodLink RX1 3 objectInit, Cond.classLink RX1 9 RX4, Cond.fieldLink RX1 11 "WinderLadders$History" "states" "[LWinderLadders$State;", Cond.methodLink RX1 17 yX4_init]
def wsX5_init_r3 : List Cond := [Cond.instanceMethod yX2_init, Cond.code yX2_init cX2_init 1 none, Cond.methodLink RX2 3 objectInit, Cond.arrayClass .char, Cond.fieldLink RX2 9 "WinderLadders$Pad" "signs" "[C", Cond.classLink RX2 15 RX3, Cond.fieldLink RX2 18 "WinderLadders$Pad" "numbers" "LWinderLadders$Row;", Cond.instanceMethod yX3_init, Cond.code yX3_init cX3_init 1 none, Cond.methodLink RX3 3 objectInit, Cond.fieldLink RX3 9 "WinderLadders$Row" "numbers" "[I"]
def wsX5_init : List Cond := .code yX5_init cX5_init 2 none :: ((wsX5_init_r1 ++ (wsX5_init_r2 ++ wsX5_init_r3)) ++ wsX40 ++ wsX50 ++ wsX10 ++ wsX20 ++ wsX30 ++ wsX00)
def wsX5_keptIfDone : List Cond := .code yX5_keptIfDone cX5_keptIfDone 2 (some .int) :: ([.fieldLink RX5 19 "WinderLadders" "history" "LWinderLadders$History;", .methodLink RX5 217 yX1_keepPrepared, .instanceMethod yX1_keepPrepared, .selects RX1 yX1_keepPrepared yX1_keepPrepared, .initialized RX1, .code yX1_keepPrepared cX1_keepPrepared 1 none, .fieldLink RX1 18 "WinderLadders$History" "depth" "I", .methodLink RX1 26 yX1_dropOldest, .instanceMethod yX1_dropOldest, .selects RX1 yX1_dropOldest yX1_dropOldest, .code yX1_dropOldest cX1_dropOldest 3 none, .fieldLink RX1 11 "WinderLadders$History" "states" "[LWinderLadders$State;"] ++ wsX50 ++ wsX10)
def wsX5_set_r1 : List Cond := [Cond.fieldLink RX5 19 "WinderLadders" "history" "LWinderLadders$History;", Cond.fieldLink RX5 12 "WinderLadders" "now" "LWinderLadders$State;", Cond.methodLink RX5 49 yX1_prepare, Cond.instanceMethod yX1_prepare, Cond.selects RX1 yX1_prepare yX1_prepare, Cond.initialized RX1, Cond.code yX1_prepare cX1_prepare 2 none, Cond.fieldLink RX1 11 "WinderLadders$History" "states" "[LWinderLadders$State;", Cond.fieldLink RX1 18 "WinderLadders$History" "depth" "I", Cond.methodLink RX1 22 yX4_copyFrom, Cond.instanceMethod yX4_copyFrom, Cond.selects RX4 yX4_copyFrom yX4_copyFrom, Cond.initialized RX4, Cond.code yX4_copyFrom cX4_copyFrom 3 none, Cond.fieldLink RX4 9 "WinderLadders$State" "settings" "[I", Cond.methodLink RX4 27 arraycopyName, Cond.native arraycopyName, Cond.static arraycopyName, Cond.initialized "java/lang/System", Cond.fieldLink RX4 21 "WinderLadders$State" "ladders" "[I", Cond.fieldLink RX4 34 "WinderLadders$State" "clockCount" "I", Cond.fieldLink RX4 17 "WinderLadders$State" "clocks" "[LWinderLadders$Clock;", Cond.fieldLink RX4 42 "WinderLadders$State" "ladderCount" "I", Cond.fieldLink RX4 45 "WinderLadders$State" "days" "I"]
def wsX5_set_r2 : List Cond := [Cond.fieldLink RX4 48 "WinderLadders$State" "minutes" "I", Cond.methodLink RX4 38 yX0_copyFrom, Cond.instanceMethod yX0_copyFrom, Cond.selects RX0 yX0_copyFrom yX0_copyFrom, Cond.initialized RX0, Cond.code yX0_copyFrom cX0_copyFrom 2 none, Cond.fieldLink RX0 9 "WinderLadders$Clock" "house" "I", Cond.fieldLink RX0 15 "WinderLadders$Clock" "rungs" "I", Cond.fieldLink RX0 18 "WinderLadders$Clock" "drift" "I", Cond.fieldLink RX0 21 "WinderLadders$Clock" "screw" "I", Cond.fieldLink RX0 24 "WinderLadders$Clock" "off" "I", Cond.fieldLink RX0 27 "WinderLadders$Clock" "daysSinceWound" "I", Cond.fieldLink RX0 30 "WinderLadders$Clock" "timesWound" "I", Cond.fieldLink RX0 33 "WinderLadders$Clock" "goes" "Z", Cond.methodLink RX5 53 yX4_replaceSetting, Cond.instanceMethod yX4_replaceSetting, Cond.selects RX4 yX4_replaceSetting yX4_replaceSetting, Cond.code yX4_replaceSetting cX4_replaceSetting 4 (some .int), Cond.static yX5_isWithin, Cond.initialized RX5, Cond.code yX5_isWithin cX5_isWithin 3 (some .boolean), Cond.methodLink RX5 57 yX5_keptIfDone, Cond.instanceMethod yX5_keptIfDone, Cond.selects RX5 yX5_keptIfDone yX5_keptIfDone]
def wsX5_set_r3 : List Cond := [Cond.code yX5_keptIfDone cX5_keptIfDone 2 (some .int), Cond.methodLink RX5 217 yX1_keepPrepared, Cond.instanceMethod yX1_keepPrepared, Cond.selects RX1 yX1_keepPrepared yX1_keepPrepared, Cond.code yX1_keepPrepared cX1_keepPrepared 1 none, Cond.methodLink RX1 26 yX1_dropOldest, Cond.instanceMethod yX1_dropOldest, Cond.selects RX1 yX1_dropOldest yX1_dropOldest, Cond.code yX1_dropOldest cX1_dropOldest 3 none]
def wsX5_set : List Cond := .code yX5_set cX5_set 3 (some .int) :: ((wsX5_set_r1 ++ (wsX5_set_r2 ++ wsX5_set_r3)) ++ wsX50 ++ wsX10 ++ wsX40 ++ wsX00)
def wsX5_hang_r1 : List Cond := [Cond.fieldLink RX5 19 "WinderLadders" "history" "LWinderLadders$History;", Cond.fieldLink RX5 12 "WinderLadders" "now" "LWinderLadders$State;", Cond.methodLink RX5 49 yX1_prepare, Cond.instanceMethod yX1_prepare, Cond.selects RX1 yX1_prepare yX1_prepare, Cond.initialized RX1, Cond.code yX1_prepare cX1_prepare 2 none, Cond.fieldLink RX1 11 "WinderLadders$History" "states" "[LWinderLadders$State;", Cond.fieldLink RX1 18 "WinderLadders$History" "depth" "I", Cond.methodLink RX1 22 yX4_copyFrom, Cond.instanceMethod yX4_copyFrom, Cond.selects RX4 yX4_copyFrom yX4_copyFrom, Cond.initialized RX4, Cond.code yX4_copyFrom cX4_copyFrom 3 none, Cond.fieldLink RX4 9 "WinderLadders$State" "settings" "[I", Cond.methodLink RX4 27 arraycopyName, Cond.native arraycopyName, Cond.static arraycopyName, Cond.initialized "java/lang/System", Cond.fieldLink RX4 21 "WinderLadders$State" "ladders" "[I", Cond.fieldLink RX4 34 "WinderLadders$State" "clockCount" "I", Cond.fieldLink RX4 17 "WinderLadders$State" "clocks" "[LWinderLadders$Clock;", Cond.fieldLink RX4 42 "WinderLadders$State" "ladderCount" "I", Cond.fieldLink RX4 45 "WinderLadders$State" "days" "I"]
def wsX5_hang_r2 : List Cond := [Cond.fieldLink RX4 48 "WinderLadders$State" "minutes" "I", Cond.methodLink RX4 38 yX0_copyFrom, Cond.instanceMethod yX0_copyFrom, Cond.selects RX0 yX0_copyFrom yX0_copyFrom, Cond.initialized RX0, Cond.code yX0_copyFrom cX0_copyFrom 2 none, Cond.fieldLink RX0 9 "WinderLadders$Clock" "house" "I", Cond.fieldLink RX0 15 "WinderLadders$Clock" "rungs" "I", Cond.fieldLink RX0 18 "WinderLadders$Clock" "drift" "I", Cond.fieldLink RX0 21 "WinderLadders$Clock" "screw" "I", Cond.fieldLink RX0 24 "WinderLadders$Clock" "off" "I", Cond.fieldLink RX0 27 "WinderLadders$Clock" "daysSinceWound" "I", Cond.fieldLink RX0 30 "WinderLadders$Clock" "timesWound" "I", Cond.fieldLink RX0 33 "WinderLadders$Clock" "goes" "Z", Cond.methodLink RX5 61 yX4_addClock, Cond.instanceMethod yX4_addClock, Cond.selects RX4 yX4_addClock yX4_addClock, Cond.code yX4_addClock cX4_addClock 4 (some .int), Cond.static yX5_isWithin, Cond.initialized RX5, Cond.code yX5_isWithin cX5_isWithin 3 (some .boolean), Cond.methodLink RX4 58 yX0_begin, Cond.instanceMethod yX0_begin, Cond.selects RX0 yX0_begin yX0_begin]
def wsX5_hang_r3 : List Cond := [Cond.code yX0_begin cX0_begin 4 none, Cond.methodLink RX5 57 yX5_keptIfDone, Cond.instanceMethod yX5_keptIfDone, Cond.selects RX5 yX5_keptIfDone yX5_keptIfDone, Cond.code yX5_keptIfDone cX5_keptIfDone 2 (some .int), Cond.methodLink RX5 217 yX1_keepPrepared, Cond.instanceMethod yX1_keepPrepared, Cond.selects RX1 yX1_keepPrepared yX1_keepPrepared, Cond.code yX1_keepPrepared cX1_keepPrepared 1 none, Cond.methodLink RX1 26 yX1_dropOldest, Cond.instanceMethod yX1_dropOldest, Cond.selects RX1 yX1_dropOldest yX1_dropOldest, Cond.code yX1_dropOldest cX1_dropOldest 3 none]
def wsX5_hang : List Cond := .code yX5_hang cX5_hang 4 (some .int) :: ((wsX5_hang_r1 ++ (wsX5_hang_r2 ++ wsX5_hang_r3)) ++ wsX50 ++ wsX10 ++ wsX40 ++ wsX00)
def wsX5_ladder_r1 : List Cond := [Cond.fieldLink RX5 19 "WinderLadders" "history" "LWinderLadders$History;", Cond.fieldLink RX5 12 "WinderLadders" "now" "LWinderLadders$State;", Cond.methodLink RX5 49 yX1_prepare, Cond.instanceMethod yX1_prepare, Cond.selects RX1 yX1_prepare yX1_prepare, Cond.initialized RX1, Cond.code yX1_prepare cX1_prepare 2 none, Cond.fieldLink RX1 11 "WinderLadders$History" "states" "[LWinderLadders$State;", Cond.fieldLink RX1 18 "WinderLadders$History" "depth" "I", Cond.methodLink RX1 22 yX4_copyFrom, Cond.instanceMethod yX4_copyFrom, Cond.selects RX4 yX4_copyFrom yX4_copyFrom, Cond.initialized RX4, Cond.code yX4_copyFrom cX4_copyFrom 3 none, Cond.fieldLink RX4 9 "WinderLadders$State" "settings" "[I", Cond.methodLink RX4 27 arraycopyName, Cond.native arraycopyName, Cond.static arraycopyName, Cond.initialized "java/lang/System", Cond.fieldLink RX4 21 "WinderLadders$State" "ladders" "[I", Cond.fieldLink RX4 34 "WinderLadders$State" "clockCount" "I", Cond.fieldLink RX4 17 "WinderLadders$State" "clocks" "[LWinderLadders$Clock;", Cond.fieldLink RX4 42 "WinderLadders$State" "ladderCount" "I", Cond.fieldLink RX4 45 "WinderLadders$State" "days" "I"]
def wsX5_ladder_r2 : List Cond := [Cond.fieldLink RX4 48 "WinderLadders$State" "minutes" "I", Cond.methodLink RX4 38 yX0_copyFrom, Cond.instanceMethod yX0_copyFrom, Cond.selects RX0 yX0_copyFrom yX0_copyFrom, Cond.initialized RX0, Cond.code yX0_copyFrom cX0_copyFrom 2 none, Cond.fieldLink RX0 9 "WinderLadders$Clock" "house" "I", Cond.fieldLink RX0 15 "WinderLadders$Clock" "rungs" "I", Cond.fieldLink RX0 18 "WinderLadders$Clock" "drift" "I", Cond.fieldLink RX0 21 "WinderLadders$Clock" "screw" "I", Cond.fieldLink RX0 24 "WinderLadders$Clock" "off" "I", Cond.fieldLink RX0 27 "WinderLadders$Clock" "daysSinceWound" "I", Cond.fieldLink RX0 30 "WinderLadders$Clock" "timesWound" "I", Cond.fieldLink RX0 33 "WinderLadders$Clock" "goes" "Z", Cond.methodLink RX5 65 yX4_addLadder, Cond.instanceMethod yX4_addLadder, Cond.selects RX4 yX4_addLadder yX4_addLadder, Cond.code yX4_addLadder cX4_addLadder 2 (some .int), Cond.static yX5_isWithin, Cond.initialized RX5, Cond.code yX5_isWithin cX5_isWithin 3 (some .boolean), Cond.methodLink RX5 57 yX5_keptIfDone, Cond.instanceMethod yX5_keptIfDone, Cond.selects RX5 yX5_keptIfDone yX5_keptIfDone]
def wsX5_ladder_r3 : List Cond := [Cond.code yX5_keptIfDone cX5_keptIfDone 2 (some .int), Cond.methodLink RX5 217 yX1_keepPrepared, Cond.instanceMethod yX1_keepPrepared, Cond.selects RX1 yX1_keepPrepared yX1_keepPrepared, Cond.code yX1_keepPrepared cX1_keepPrepared 1 none, Cond.methodLink RX1 26 yX1_dropOldest, Cond.instanceMethod yX1_dropOldest, Cond.selects RX1 yX1_dropOldest yX1_dropOldest, Cond.code yX1_dropOldest cX1_dropOldest 3 none]
def wsX5_ladder : List Cond := .code yX5_ladder cX5_ladder 2 (some .int) :: ((wsX5_ladder_r1 ++ (wsX5_ladder_r2 ++ wsX5_ladder_r3)) ++ wsX50 ++ wsX10 ++ wsX40 ++ wsX00)
def wsX5_screw_r1 : List Cond := [Cond.fieldLink RX5 19 "WinderLadders" "history" "LWinderLadders$History;", Cond.fieldLink RX5 12 "WinderLadders" "now" "LWinderLadders$State;", Cond.methodLink RX5 49 yX1_prepare, Cond.instanceMethod yX1_prepare, Cond.selects RX1 yX1_prepare yX1_prepare, Cond.initialized RX1, Cond.code yX1_prepare cX1_prepare 2 none, Cond.fieldLink RX1 11 "WinderLadders$History" "states" "[LWinderLadders$State;", Cond.fieldLink RX1 18 "WinderLadders$History" "depth" "I", Cond.methodLink RX1 22 yX4_copyFrom, Cond.instanceMethod yX4_copyFrom, Cond.selects RX4 yX4_copyFrom yX4_copyFrom, Cond.initialized RX4, Cond.code yX4_copyFrom cX4_copyFrom 3 none, Cond.fieldLink RX4 9 "WinderLadders$State" "settings" "[I", Cond.methodLink RX4 27 arraycopyName, Cond.native arraycopyName, Cond.static arraycopyName, Cond.initialized "java/lang/System", Cond.fieldLink RX4 21 "WinderLadders$State" "ladders" "[I", Cond.fieldLink RX4 34 "WinderLadders$State" "clockCount" "I", Cond.fieldLink RX4 17 "WinderLadders$State" "clocks" "[LWinderLadders$Clock;", Cond.fieldLink RX4 42 "WinderLadders$State" "ladderCount" "I", Cond.fieldLink RX4 45 "WinderLadders$State" "days" "I"]
def wsX5_screw_r2 : List Cond := [Cond.fieldLink RX4 48 "WinderLadders$State" "minutes" "I", Cond.methodLink RX4 38 yX0_copyFrom, Cond.instanceMethod yX0_copyFrom, Cond.selects RX0 yX0_copyFrom yX0_copyFrom, Cond.initialized RX0, Cond.code yX0_copyFrom cX0_copyFrom 2 none, Cond.fieldLink RX0 9 "WinderLadders$Clock" "house" "I", Cond.fieldLink RX0 15 "WinderLadders$Clock" "rungs" "I", Cond.fieldLink RX0 18 "WinderLadders$Clock" "drift" "I", Cond.fieldLink RX0 21 "WinderLadders$Clock" "screw" "I", Cond.fieldLink RX0 24 "WinderLadders$Clock" "off" "I", Cond.fieldLink RX0 27 "WinderLadders$Clock" "daysSinceWound" "I", Cond.fieldLink RX0 30 "WinderLadders$Clock" "timesWound" "I", Cond.fieldLink RX0 33 "WinderLadders$Clock" "goes" "Z", Cond.methodLink RX5 68 yX4_turnScrew, Cond.instanceMethod yX4_turnScrew, Cond.selects RX4 yX4_turnScrew yX4_turnScrew, Cond.code yX4_turnScrew cX4_turnScrew 4 (some .int), Cond.fieldLink RX4 66 "WinderLadders$Clock" "screw" "I", Cond.methodLink RX4 62 yX4_hasClock, Cond.instanceMethod yX4_hasClock, Cond.selects RX4 yX4_hasClock yX4_hasClock, Cond.code yX4_hasClock cX4_hasClock 2 (some .boolean), Cond.static yX5_isWithin]
def wsX5_screw_r3 : List Cond := [Cond.initialized RX5, Cond.code yX5_isWithin cX5_isWithin 3 (some .boolean), Cond.methodLink RX5 57 yX5_keptIfDone, Cond.instanceMethod yX5_keptIfDone, Cond.selects RX5 yX5_keptIfDone yX5_keptIfDone, Cond.code yX5_keptIfDone cX5_keptIfDone 2 (some .int), Cond.methodLink RX5 217 yX1_keepPrepared, Cond.instanceMethod yX1_keepPrepared, Cond.selects RX1 yX1_keepPrepared yX1_keepPrepared, Cond.code yX1_keepPrepared cX1_keepPrepared 1 none, Cond.methodLink RX1 26 yX1_dropOldest, Cond.instanceMethod yX1_dropOldest, Cond.selects RX1 yX1_dropOldest yX1_dropOldest, Cond.code yX1_dropOldest cX1_dropOldest 3 none]
def wsX5_screw : List Cond := .code yX5_screw cX5_screw 3 (some .int) :: ((wsX5_screw_r1 ++ (wsX5_screw_r2 ++ wsX5_screw_r3)) ++ wsX50 ++ wsX10 ++ wsX40 ++ wsX00)
def wsX5_chooseRow : List Cond := .code yX5_chooseRow cX5_chooseRow 3 (some .int) :: ([.fieldLink RX5 41 "WinderLadders" "row" "LWinderLadders$Row;", .fieldLink RX5 12 "WinderLadders" "now" "LWinderLadders$State;", .fieldLink RX5 144 "WinderLadders$State" "clockCount" "I", .fieldLink RX5 226 "WinderLadders$Row" "length" "I", .methodLink RX5 220 yX3_clear, .instanceMethod yX3_clear, .selects RX3 yX3_clear yX3_clear, .initialized RX3, .code yX3_clear cX3_clear 1 none, .fieldLink RX3 15 "WinderLadders$Row" "length" "I", .methodLink RX5 223 yX3_add, .instanceMethod yX3_add, .selects RX3 yX3_add yX3_add, .code yX3_add cX3_add 2 (some .boolean), .fieldLink RX3 9 "WinderLadders$Row" "numbers" "[I"] ++ wsX50 ++ wsX40 ++ wsX30)
def wsX5_round_r1 : List Cond := [Cond.fieldLink RX5 19 "WinderLadders" "history" "LWinderLadders$History;", Cond.fieldLink RX5 12 "WinderLadders" "now" "LWinderLadders$State;", Cond.fieldLink RX5 41 "WinderLadders" "row" "LWinderLadders$Row;", Cond.methodLink RX5 71 yX5_chooseRow, Cond.instanceMethod yX5_chooseRow, Cond.selects RX5 yX5_chooseRow yX5_chooseRow, Cond.initialized RX5, Cond.code yX5_chooseRow cX5_chooseRow 3 (some .int), Cond.fieldLink RX5 144 "WinderLadders$State" "clockCount" "I", Cond.fieldLink RX5 226 "WinderLadders$Row" "length" "I", Cond.methodLink RX5 220 yX3_clear, Cond.instanceMethod yX3_clear, Cond.selects RX3 yX3_clear yX3_clear, Cond.initialized RX3, Cond.code yX3_clear cX3_clear 1 none, Cond.fieldLink RX3 15 "WinderLadders$Row" "length" "I", Cond.methodLink RX5 223 yX3_add, Cond.instanceMethod yX3_add, Cond.selects RX3 yX3_add yX3_add, Cond.code yX3_add cX3_add 2 (some .boolean), Cond.fieldLink RX3 9 "WinderLadders$Row" "numbers" "[I", Cond.methodLink RX5 49 yX1_prepare, Cond.instanceMethod yX1_prepare, Cond.selects RX1 yX1_prepare yX1_prepare]
def wsX5_round_r2 : List Cond := [Cond.initialized RX1, Cond.code yX1_prepare cX1_prepare 2 none, Cond.fieldLink RX1 11 "WinderLadders$History" "states" "[LWinderLadders$State;", Cond.fieldLink RX1 18 "WinderLadders$History" "depth" "I", Cond.methodLink RX1 22 yX4_copyFrom, Cond.instanceMethod yX4_copyFrom, Cond.selects RX4 yX4_copyFrom yX4_copyFrom, Cond.initialized RX4, Cond.code yX4_copyFrom cX4_copyFrom 3 none, Cond.fieldLink RX4 9 "WinderLadders$State" "settings" "[I", Cond.methodLink RX4 27 arraycopyName, Cond.native arraycopyName, Cond.static arraycopyName, Cond.initialized "java/lang/System", Cond.fieldLink RX4 21 "WinderLadders$State" "ladders" "[I", Cond.fieldLink RX4 34 "WinderLadders$State" "clockCount" "I", Cond.fieldLink RX4 17 "WinderLadders$State" "clocks" "[LWinderLadders$Clock;", Cond.fieldLink RX4 42 "WinderLadders$State" "ladderCount" "I", Cond.fieldLink RX4 45 "WinderLadders$State" "days" "I", Cond.fieldLink RX4 48 "WinderLadders$State" "minutes" "I", Cond.methodLink RX4 38 yX0_copyFrom, Cond.instanceMethod yX0_copyFrom, Cond.selects RX0 yX0_copyFrom yX0_copyFrom, Cond.initialized RX0]
def wsX5_round_r3 : List Cond := [Cond.code yX0_copyFrom cX0_copyFrom 2 none, Cond.fieldLink RX0 9 "WinderLadders$Clock" "house" "I", Cond.fieldLink RX0 15 "WinderLadders$Clock" "rungs" "I", Cond.fieldLink RX0 18 "WinderLadders$Clock" "drift" "I", Cond.fieldLink RX0 21 "WinderLadders$Clock" "screw" "I", Cond.fieldLink RX0 24 "WinderLadders$Clock" "off" "I", Cond.fieldLink RX0 27 "WinderLadders$Clock" "daysSinceWound" "I", Cond.fieldLink RX0 30 "WinderLadders$Clock" "timesWound" "I", Cond.fieldLink RX0 33 "WinderLadders$Clock" "goes" "Z", Cond.methodLink RX5 74 yX4_walkBeat, Cond.instanceMethod yX4_walkBeat, Cond.selects RX4 yX4_walkBeat yX4_walkBeat, Cond.code yX4_walkBeat cX4_walkBeat 5 (some .int), Cond.fieldLink RX4 88 "WinderLadders$Row" "length" "I", Cond.methodLink RX4 84 yX4_minutesOf, Cond.instanceMethod yX4_minutesOf, Cond.selects RX4 yX4_minutesOf yX4_minutesOf, Cond.code yX4_minutesOf cX4_minutesOf 10 (some .int), Cond.fieldLink RX4 104 "WinderLadders$Clock" "house" "I", Cond.methodLink RX4 107 Lib.Math.abs.name, Cond.static Lib.Math.abs.name, Cond.initialized "java/lang/Math", Cond.code Lib.Math.abs.name Lib.Math.abs.code 1 (some .int), Cond.methodLink RX4 93 yX3_at]
def wsX5_round_r4 : List Cond := [Cond.instanceMethod yX3_at, Cond.selects RX3 yX3_at yX3_at, Cond.code yX3_at cX3_at 2 (some .int), Cond.methodLink RX4 62 yX4_hasClock, Cond.instanceMethod yX4_hasClock, Cond.selects RX4 yX4_hasClock yX4_hasClock, Cond.code yX4_hasClock cX4_hasClock 2 (some .boolean), Cond.methodLink RX4 112 yX4_ladderNeeded, Cond.instanceMethod yX4_ladderNeeded, Cond.selects RX4 yX4_ladderNeeded yX4_ladderNeeded, Cond.code yX4_ladderNeeded cX4_ladderNeeded 5 (some .int), Cond.fieldLink RX4 116 "WinderLadders$Clock" "rungs" "I", Cond.methodLink RX4 97 yX4_canBeWound, Cond.instanceMethod yX4_canBeWound, Cond.selects RX4 yX4_canBeWound yX4_canBeWound, Cond.code yX4_canBeWound cX4_canBeWound 2 (some .boolean), Cond.methodLink RX4 101 yX0_windAndSet, Cond.instanceMethod yX0_windAndSet, Cond.selects RX0 yX0_windAndSet yX0_windAndSet, Cond.code yX0_windAndSet cX0_windAndSet 2 none, Cond.methodLink RX0 48 yX0_isOffBeyond, Cond.instanceMethod yX0_isOffBeyond, Cond.selects RX0 yX0_isOffBeyond yX0_isOffBeyond, Cond.code yX0_isOffBeyond cX0_isOffBeyond 2 (some .boolean)]
def wsX5_round_r5 : List Cond := [Cond.methodLink RX0 37 Lib.Math.abs.name, Cond.methodLink RX0 52 yX0_turnByRule, Cond.instanceMethod yX0_turnByRule, Cond.selects RX0 yX0_turnByRule yX0_turnByRule, Cond.code yX0_turnByRule cX0_turnByRule 2 none, Cond.methodLink RX0 43 yX0_driftWithScrew, Cond.instanceMethod yX0_driftWithScrew, Cond.selects RX0 yX0_driftWithScrew yX0_driftWithScrew, Cond.code yX0_driftWithScrew cX0_driftWithScrew 1 (some .int), Cond.methodLink RX5 57 yX5_keptIfDone, Cond.instanceMethod yX5_keptIfDone, Cond.selects RX5 yX5_keptIfDone yX5_keptIfDone, Cond.code yX5_keptIfDone cX5_keptIfDone 2 (some .int), Cond.methodLink RX5 217 yX1_keepPrepared, Cond.instanceMethod yX1_keepPrepared, Cond.selects RX1 yX1_keepPrepared yX1_keepPrepared, Cond.code yX1_keepPrepared cX1_keepPrepared 1 none, Cond.methodLink RX1 26 yX1_dropOldest, Cond.instanceMethod yX1_dropOldest, Cond.selects RX1 yX1_dropOldest yX1_dropOldest, Cond.code yX1_dropOldest cX1_dropOldest 3 none]
def wsX5_round : List Cond := .code yX5_round cX5_round 3 (some .int) :: ((wsX5_round_r1 ++ (wsX5_round_r2 ++ (wsX5_round_r3 ++ (wsX5_round_r4 ++ wsX5_round_r5)))) ++ wsX50 ++ wsX40 ++ wsX30 ++ wsX10 ++ wsX00)
def wsX5_pass_r1 : List Cond := [Cond.fieldLink RX5 19 "WinderLadders" "history" "LWinderLadders$History;", Cond.fieldLink RX5 12 "WinderLadders" "now" "LWinderLadders$State;", Cond.methodLink RX5 49 yX1_prepare, Cond.instanceMethod yX1_prepare, Cond.selects RX1 yX1_prepare yX1_prepare, Cond.initialized RX1, Cond.code yX1_prepare cX1_prepare 2 none, Cond.fieldLink RX1 11 "WinderLadders$History" "states" "[LWinderLadders$State;", Cond.fieldLink RX1 18 "WinderLadders$History" "depth" "I", Cond.methodLink RX1 22 yX4_copyFrom, Cond.instanceMethod yX4_copyFrom, Cond.selects RX4 yX4_copyFrom yX4_copyFrom, Cond.initialized RX4, Cond.code yX4_copyFrom cX4_copyFrom 3 none, Cond.fieldLink RX4 9 "WinderLadders$State" "settings" "[I", Cond.methodLink RX4 27 arraycopyName, Cond.native arraycopyName, Cond.static arraycopyName, Cond.initialized "java/lang/System", Cond.fieldLink RX4 21 "WinderLadders$State" "ladders" "[I", Cond.fieldLink RX4 34 "WinderLadders$State" "clockCount" "I", Cond.fieldLink RX4 17 "WinderLadders$State" "clocks" "[LWinderLadders$Clock;", Cond.fieldLink RX4 42 "WinderLadders$State" "ladderCount" "I", Cond.fieldLink RX4 45 "WinderLadders$State" "days" "I"]
def wsX5_pass_r2 : List Cond := [Cond.fieldLink RX4 48 "WinderLadders$State" "minutes" "I", Cond.methodLink RX4 38 yX0_copyFrom, Cond.instanceMethod yX0_copyFrom, Cond.selects RX0 yX0_copyFrom yX0_copyFrom, Cond.initialized RX0, Cond.code yX0_copyFrom cX0_copyFrom 2 none, Cond.fieldLink RX0 9 "WinderLadders$Clock" "house" "I", Cond.fieldLink RX0 15 "WinderLadders$Clock" "rungs" "I", Cond.fieldLink RX0 18 "WinderLadders$Clock" "drift" "I", Cond.fieldLink RX0 21 "WinderLadders$Clock" "screw" "I", Cond.fieldLink RX0 24 "WinderLadders$Clock" "off" "I", Cond.fieldLink RX0 27 "WinderLadders$Clock" "daysSinceWound" "I", Cond.fieldLink RX0 30 "WinderLadders$Clock" "timesWound" "I", Cond.fieldLink RX0 33 "WinderLadders$Clock" "goes" "Z", Cond.methodLink RX5 78 yX4_passDays, Cond.instanceMethod yX4_passDays, Cond.selects RX4 yX4_passDays yX4_passDays, Cond.code yX4_passDays cX4_passDays 4 (some .int), Cond.static yX5_isWithin, Cond.initialized RX5, Cond.code yX5_isWithin cX5_isWithin 3 (some .boolean), Cond.methodLink RX4 69 yX0_passDay, Cond.instanceMethod yX0_passDay, Cond.selects RX0 yX0_passDay yX0_passDay]
def wsX5_pass_r3 : List Cond := [Cond.code yX0_passDay cX0_passDay 2 none, Cond.constant RX0 47 (43200), Cond.methodLink RX0 43 yX0_driftWithScrew, Cond.instanceMethod yX0_driftWithScrew, Cond.selects RX0 yX0_driftWithScrew yX0_driftWithScrew, Cond.code yX0_driftWithScrew cX0_driftWithScrew 1 (some .int), Cond.methodLink RX4 73 yX4_numberThatGo, Cond.instanceMethod yX4_numberThatGo, Cond.selects RX4 yX4_numberThatGo yX4_numberThatGo, Cond.code yX4_numberThatGo cX4_numberThatGo 3 (some .int), Cond.fieldLink RX4 77 "WinderLadders$Clock" "goes" "Z", Cond.methodLink RX5 57 yX5_keptIfDone, Cond.instanceMethod yX5_keptIfDone, Cond.selects RX5 yX5_keptIfDone yX5_keptIfDone, Cond.code yX5_keptIfDone cX5_keptIfDone 2 (some .int), Cond.methodLink RX5 217 yX1_keepPrepared, Cond.instanceMethod yX1_keepPrepared, Cond.selects RX1 yX1_keepPrepared yX1_keepPrepared, Cond.code yX1_keepPrepared cX1_keepPrepared 1 none, Cond.methodLink RX1 26 yX1_dropOldest, Cond.instanceMethod yX1_dropOldest, Cond.selects RX1 yX1_dropOldest yX1_dropOldest, Cond.code yX1_dropOldest cX1_dropOldest 3 none]
def wsX5_pass : List Cond := .code yX5_pass cX5_pass 2 (some .int) :: ((wsX5_pass_r1 ++ (wsX5_pass_r2 ++ wsX5_pass_r3)) ++ wsX50 ++ wsX10 ++ wsX40 ++ wsX00)
def wsX5_change_r1 : List Cond := [Cond.fieldLink RX5 19 "WinderLadders" "history" "LWinderLadders$History;", Cond.fieldLink RX5 12 "WinderLadders" "now" "LWinderLadders$State;", Cond.methodLink RX5 49 yX1_prepare, Cond.instanceMethod yX1_prepare, Cond.selects RX1 yX1_prepare yX1_prepare, Cond.initialized RX1, Cond.code yX1_prepare cX1_prepare 2 none, Cond.fieldLink RX1 11 "WinderLadders$History" "states" "[LWinderLadders$State;", Cond.fieldLink RX1 18 "WinderLadders$History" "depth" "I", Cond.methodLink RX1 22 yX4_copyFrom, Cond.instanceMethod yX4_copyFrom, Cond.selects RX4 yX4_copyFrom yX4_copyFrom, Cond.initialized RX4, Cond.code yX4_copyFrom cX4_copyFrom 3 none, Cond.fieldLink RX4 9 "WinderLadders$State" "settings" "[I", Cond.methodLink RX4 27 arraycopyName, Cond.native arraycopyName, Cond.static arraycopyName, Cond.initialized "java/lang/System", Cond.fieldLink RX4 21 "WinderLadders$State" "ladders" "[I", Cond.fieldLink RX4 34 "WinderLadders$State" "clockCount" "I", Cond.fieldLink RX4 17 "WinderLadders$State" "clocks" "[LWinderLadders$Clock;", Cond.fieldLink RX4 42 "WinderLadders$State" "ladderCount" "I", Cond.fieldLink RX4 45 "WinderLadders$State" "days" "I"]
def wsX5_change_r2 : List Cond := [Cond.fieldLink RX4 48 "WinderLadders$State" "minutes" "I", Cond.methodLink RX4 38 yX0_copyFrom, Cond.instanceMethod yX0_copyFrom, Cond.selects RX0 yX0_copyFrom yX0_copyFrom, Cond.initialized RX0, Cond.code yX0_copyFrom cX0_copyFrom 2 none, Cond.fieldLink RX0 9 "WinderLadders$Clock" "house" "I", Cond.fieldLink RX0 15 "WinderLadders$Clock" "rungs" "I", Cond.fieldLink RX0 18 "WinderLadders$Clock" "drift" "I", Cond.fieldLink RX0 21 "WinderLadders$Clock" "screw" "I", Cond.fieldLink RX0 24 "WinderLadders$Clock" "off" "I", Cond.fieldLink RX0 27 "WinderLadders$Clock" "daysSinceWound" "I", Cond.fieldLink RX0 30 "WinderLadders$Clock" "timesWound" "I", Cond.fieldLink RX0 33 "WinderLadders$Clock" "goes" "Z", Cond.methodLink RX5 81 yX4_changeClocks, Cond.instanceMethod yX4_changeClocks, Cond.selects RX4 yX4_changeClocks yX4_changeClocks, Cond.code yX4_changeClocks cX4_changeClocks 4 (some .int), Cond.fieldLink RX4 77 "WinderLadders$Clock" "goes" "Z", Cond.fieldLink RX4 81 "WinderLadders$Clock" "off" "I", Cond.methodLink RX4 73 yX4_numberThatGo, Cond.instanceMethod yX4_numberThatGo, Cond.selects RX4 yX4_numberThatGo yX4_numberThatGo, Cond.code yX4_numberThatGo cX4_numberThatGo 3 (some .int)]
def wsX5_change_r3 : List Cond := [Cond.methodLink RX5 57 yX5_keptIfDone, Cond.instanceMethod yX5_keptIfDone, Cond.selects RX5 yX5_keptIfDone yX5_keptIfDone, Cond.initialized RX5, Cond.code yX5_keptIfDone cX5_keptIfDone 2 (some .int), Cond.methodLink RX5 217 yX1_keepPrepared, Cond.instanceMethod yX1_keepPrepared, Cond.selects RX1 yX1_keepPrepared yX1_keepPrepared, Cond.code yX1_keepPrepared cX1_keepPrepared 1 none, Cond.methodLink RX1 26 yX1_dropOldest, Cond.instanceMethod yX1_dropOldest, Cond.selects RX1 yX1_dropOldest yX1_dropOldest, Cond.code yX1_dropOldest cX1_dropOldest 3 none]
def wsX5_change : List Cond := .code yX5_change cX5_change 2 (some .int) :: ((wsX5_change_r1 ++ (wsX5_change_r2 ++ wsX5_change_r3)) ++ wsX50 ++ wsX10 ++ wsX40 ++ wsX00)
def wsX5_of_r1 : List Cond := [Cond.fieldLink RX5 12 "WinderLadders" "now" "LWinderLadders$State;", Cond.fieldLink RX5 88 "WinderLadders$State" "clocks" "[LWinderLadders$Clock;", Cond.fieldLink RX5 92 "WinderLadders$Clock" "house" "I", Cond.fieldLink RX5 98 "WinderLadders$Clock" "rungs" "I", Cond.fieldLink RX5 101 "WinderLadders$Clock" "drift" "I", Cond.fieldLink RX5 104 "WinderLadders$Clock" "screw" "I", Cond.fieldLink RX5 107 "WinderLadders$Clock" "off" "I", Cond.constant RX5 110 (1000000000), Cond.fieldLink RX5 111 "WinderLadders$Clock" "daysSinceWound" "I", Cond.fieldLink RX5 114 "WinderLadders$Clock" "goes" "Z", Cond.fieldLink RX5 118 "WinderLadders$State" "settings" "[I", Cond.fieldLink RX5 132 "WinderLadders$Clock" "timesWound" "I", Cond.methodLink RX5 84 yX4_hasClock, Cond.instanceMethod yX4_hasClock, Cond.selects RX4 yX4_hasClock yX4_hasClock, Cond.initialized RX4, Cond.code yX4_hasClock cX4_hasClock 2 (some .boolean), Cond.fieldLink RX4 34 "WinderLadders$State" "clockCount" "I", Cond.methodLink RX5 121 yX0_isOffBeyond, Cond.instanceMethod yX0_isOffBeyond, Cond.selects RX0 yX0_isOffBeyond yX0_isOffBeyond, Cond.initialized RX0, Cond.code yX0_isOffBeyond cX0_isOffBeyond 2 (some .boolean), Cond.fieldLink RX0 24 "WinderLadders$Clock" "off" "I"]
def wsX5_of_r2 : List Cond := [Cond.methodLink RX0 37 Lib.Math.abs.name, Cond.static Lib.Math.abs.name, Cond.initialized "java/lang/Math", Cond.code Lib.Math.abs.name Lib.Math.abs.code 1 (some .int), Cond.methodLink RX5 124 yX4_ladderNeeded, Cond.instanceMethod yX4_ladderNeeded, Cond.selects RX4 yX4_ladderNeeded yX4_ladderNeeded, Cond.code yX4_ladderNeeded cX4_ladderNeeded 5 (some .int), Cond.fieldLink RX4 116 "WinderLadders$Clock" "rungs" "I", Cond.fieldLink RX4 42 "WinderLadders$State" "ladderCount" "I", Cond.fieldLink RX4 21 "WinderLadders$State" "ladders" "[I", Cond.methodLink RX5 128 yX4_canBeWound, Cond.instanceMethod yX4_canBeWound, Cond.selects RX4 yX4_canBeWound yX4_canBeWound, Cond.code yX4_canBeWound cX4_canBeWound 2 (some .boolean), Cond.methodLink RX4 112 yX4_ladderNeeded]
def wsX5_of : List Cond := .code yX5_of cX5_of 4 (some .int) :: ((wsX5_of_r1 ++ wsX5_of_r2) ++ wsX50 ++ wsX40 ++ wsX00)
def wsX5_ofLadder : List Cond := .code yX5_ofLadder cX5_ofLadder 2 (some .int) :: ([.fieldLink RX5 12 "WinderLadders" "now" "LWinderLadders$State;", .fieldLink RX5 138 "WinderLadders$State" "ladders" "[I", .methodLink RX5 135 yX4_hasLadder, .instanceMethod yX4_hasLadder, .selects RX4 yX4_hasLadder yX4_hasLadder, .initialized RX4, .code yX4_hasLadder cX4_hasLadder 2 (some .boolean), .fieldLink RX4 42 "WinderLadders$State" "ladderCount" "I"] ++ wsX50 ++ wsX40)
def wsX5_count_r1 : List Cond := [Cond.fieldLink RX5 12 "WinderLadders" "now" "LWinderLadders$State;", Cond.fieldLink RX5 141 "WinderLadders$State" "days" "I", Cond.fieldLink RX5 144 "WinderLadders$State" "clockCount" "I", Cond.fieldLink RX5 147 "WinderLadders$State" "ladderCount" "I", Cond.fieldLink RX5 160 "WinderLadders$State" "minutes" "I", Cond.fieldLink RX5 118 "WinderLadders$State" "settings" "[I", Cond.fieldLink RX5 34 "WinderLadders" "pad" "LWinderLadders$Pad;", Cond.fieldLink RX5 166 "WinderLadders$Pad" "length" "I", Cond.fieldLink RX5 19 "WinderLadders" "history" "LWinderLadders$History;", Cond.fieldLink RX5 169 "WinderLadders$History" "depth" "I", Cond.methodLink RX5 150 yX4_setOfStill, Cond.instanceMethod yX4_setOfStill, Cond.selects RX4 yX4_setOfStill yX4_setOfStill, Cond.initialized RX4, Cond.code yX4_setOfStill cX4_setOfStill 3 (some .int), Cond.fieldLink RX4 34 "WinderLadders$State" "clockCount" "I", Cond.fieldLink RX4 17 "WinderLadders$State" "clocks" "[LWinderLadders$Clock;", Cond.fieldLink RX4 77 "WinderLadders$Clock" "goes" "Z", Cond.methodLink RX5 154 yX4_numberOffBeyondTold, Cond.instanceMethod yX4_numberOffBeyondTold, Cond.selects RX4 yX4_numberOffBeyondTold yX4_numberOffBeyondTold, Cond.code yX4_numberOffBeyondTold cX4_numberOffBeyondTold 3 (some .int), Cond.fieldLink RX4 9 "WinderLadders$State" "settings" "[I", Cond.methodLink RX4 119 yX0_isOffBeyond]
def wsX5_count_r2 : List Cond := [Cond.instanceMethod yX0_isOffBeyond, Cond.selects RX0 yX0_isOffBeyond yX0_isOffBeyond, Cond.initialized RX0, Cond.code yX0_isOffBeyond cX0_isOffBeyond 2 (some .boolean), Cond.fieldLink RX0 24 "WinderLadders$Clock" "off" "I", Cond.methodLink RX0 37 Lib.Math.abs.name, Cond.static Lib.Math.abs.name, Cond.initialized "java/lang/Math", Cond.code Lib.Math.abs.name Lib.Math.abs.code 1 (some .int), Cond.methodLink RX5 157 yX4_numberThatCannotBeWound, Cond.instanceMethod yX4_numberThatCannotBeWound, Cond.selects RX4 yX4_numberThatCannotBeWound yX4_numberThatCannotBeWound, Cond.code yX4_numberThatCannotBeWound cX4_numberThatCannotBeWound 3 (some .int), Cond.methodLink RX4 97 yX4_canBeWound, Cond.instanceMethod yX4_canBeWound, Cond.selects RX4 yX4_canBeWound yX4_canBeWound, Cond.code yX4_canBeWound cX4_canBeWound 2 (some .boolean), Cond.fieldLink RX4 116 "WinderLadders$Clock" "rungs" "I", Cond.methodLink RX4 112 yX4_ladderNeeded, Cond.instanceMethod yX4_ladderNeeded, Cond.selects RX4 yX4_ladderNeeded yX4_ladderNeeded, Cond.code yX4_ladderNeeded cX4_ladderNeeded 5 (some .int), Cond.fieldLink RX4 42 "WinderLadders$State" "ladderCount" "I", Cond.fieldLink RX4 21 "WinderLadders$State" "ladders" "[I"]
def wsX5_count_r3 : List Cond := [Cond.methodLink RX5 163 yX4_timesWoundInAll, Cond.instanceMethod yX4_timesWoundInAll, Cond.selects RX4 yX4_timesWoundInAll yX4_timesWoundInAll, Cond.code yX4_timesWoundInAll cX4_timesWoundInAll 3 (some .int), Cond.fieldLink RX4 122 "WinderLadders$Clock" "timesWound" "I"]
def wsX5_count : List Cond := .code yX5_count cX5_count 2 (some .int) :: ((wsX5_count_r1 ++ (wsX5_count_r2 ++ wsX5_count_r3)) ++ wsX50 ++ wsX40 ++ wsX20 ++ wsX10 ++ wsX00)
def wsX5_takes_r1 : List Cond := [Cond.fieldLink RX5 12 "WinderLadders" "now" "LWinderLadders$State;", Cond.fieldLink RX5 41 "WinderLadders" "row" "LWinderLadders$Row;", Cond.methodLink RX5 71 yX5_chooseRow, Cond.instanceMethod yX5_chooseRow, Cond.selects RX5 yX5_chooseRow yX5_chooseRow, Cond.initialized RX5, Cond.code yX5_chooseRow cX5_chooseRow 3 (some .int), Cond.fieldLink RX5 144 "WinderLadders$State" "clockCount" "I", Cond.fieldLink RX5 226 "WinderLadders$Row" "length" "I", Cond.methodLink RX5 220 yX3_clear, Cond.instanceMethod yX3_clear, Cond.selects RX3 yX3_clear yX3_clear, Cond.initialized RX3, Cond.code yX3_clear cX3_clear 1 none, Cond.fieldLink RX3 15 "WinderLadders$Row" "length" "I", Cond.methodLink RX5 223 yX3_add, Cond.instanceMethod yX3_add, Cond.selects RX3 yX3_add yX3_add, Cond.code yX3_add cX3_add 2 (some .boolean), Cond.fieldLink RX3 9 "WinderLadders$Row" "numbers" "[I", Cond.methodLink RX5 172 yX4_minutesOf, Cond.instanceMethod yX4_minutesOf, Cond.selects RX4 yX4_minutesOf yX4_minutesOf, Cond.initialized RX4]
def wsX5_takes_r2 : List Cond := [Cond.code yX4_minutesOf cX4_minutesOf 10 (some .int), Cond.fieldLink RX4 88 "WinderLadders$Row" "length" "I", Cond.fieldLink RX4 17 "WinderLadders$State" "clocks" "[LWinderLadders$Clock;", Cond.fieldLink RX4 104 "WinderLadders$Clock" "house" "I", Cond.methodLink RX4 107 Lib.Math.abs.name, Cond.static Lib.Math.abs.name, Cond.initialized "java/lang/Math", Cond.code Lib.Math.abs.name Lib.Math.abs.code 1 (some .int), Cond.fieldLink RX4 9 "WinderLadders$State" "settings" "[I", Cond.methodLink RX4 93 yX3_at, Cond.instanceMethod yX3_at, Cond.selects RX3 yX3_at yX3_at, Cond.code yX3_at cX3_at 2 (some .int), Cond.methodLink RX4 62 yX4_hasClock, Cond.instanceMethod yX4_hasClock, Cond.selects RX4 yX4_hasClock yX4_hasClock, Cond.code yX4_hasClock cX4_hasClock 2 (some .boolean), Cond.fieldLink RX4 34 "WinderLadders$State" "clockCount" "I", Cond.methodLink RX4 112 yX4_ladderNeeded, Cond.instanceMethod yX4_ladderNeeded, Cond.selects RX4 yX4_ladderNeeded yX4_ladderNeeded, Cond.code yX4_ladderNeeded cX4_ladderNeeded 5 (some .int), Cond.fieldLink RX4 116 "WinderLadders$Clock" "rungs" "I", Cond.fieldLink RX4 42 "WinderLadders$State" "ladderCount" "I"]
def wsX5_takes_r3 : List Cond := [Cond.fieldLink RX4 21 "WinderLadders$State" "ladders" "[I", Cond.methodLink RX4 97 yX4_canBeWound, Cond.instanceMethod yX4_canBeWound, Cond.selects RX4 yX4_canBeWound yX4_canBeWound, Cond.code yX4_canBeWound cX4_canBeWound 2 (some .boolean)]
def wsX5_takes : List Cond := .code yX5_takes cX5_takes 3 (some .int) :: ((wsX5_takes_r1 ++ (wsX5_takes_r2 ++ wsX5_takes_r3)) ++ wsX50 ++ wsX40 ++ wsX30 ++ wsX00)
def wsX5_lasts_r1 : List Cond := [Cond.fieldLink RX5 12 "WinderLadders" "now" "LWinderLadders$State;", Cond.methodLink RX5 84 yX4_hasClock, Cond.instanceMethod yX4_hasClock, Cond.selects RX4 yX4_hasClock yX4_hasClock, Cond.initialized RX4, Cond.code yX4_hasClock cX4_hasClock 2 (some .boolean), Cond.fieldLink RX4 34 "WinderLadders$State" "clockCount" "I", Cond.methodLink RX5 175 yX4_daysUntilOff, Cond.instanceMethod yX4_daysUntilOff, Cond.selects RX4 yX4_daysUntilOff yX4_daysUntilOff, Cond.code yX4_daysUntilOff cX4_daysUntilOff 2 (some .int), Cond.fieldLink RX4 17 "WinderLadders$State" "clocks" "[LWinderLadders$Clock;", Cond.fieldLink RX4 9 "WinderLadders$State" "settings" "[I", Cond.methodLink RX4 62 yX4_hasClock, Cond.methodLink RX4 129 yX0_daysUntilOff, Cond.instanceMethod yX0_daysUntilOff, Cond.selects RX0 yX0_daysUntilOff yX0_daysUntilOff, Cond.initialized RX0, Cond.code yX0_daysUntilOff cX0_daysUntilOff 5 (some .int), Cond.fieldLink RX0 27 "WinderLadders$Clock" "daysSinceWound" "I", Cond.methodLink RX0 55 Lib.Math.max.name, Cond.static Lib.Math.max.name, Cond.initialized "java/lang/Math", Cond.code Lib.Math.max.name Lib.Math.max.code 2 (some .int)]
def wsX5_lasts_r2 : List Cond := [Cond.fieldLink RX0 24 "WinderLadders$Clock" "off" "I", Cond.methodLink RX0 37 Lib.Math.abs.name, Cond.static Lib.Math.abs.name, Cond.code Lib.Math.abs.name Lib.Math.abs.code 1 (some .int), Cond.methodLink RX0 48 yX0_isOffBeyond, Cond.instanceMethod yX0_isOffBeyond, Cond.selects RX0 yX0_isOffBeyond yX0_isOffBeyond, Cond.code yX0_isOffBeyond cX0_isOffBeyond 2 (some .boolean), Cond.methodLink RX0 43 yX0_driftWithScrew, Cond.instanceMethod yX0_driftWithScrew, Cond.selects RX0 yX0_driftWithScrew yX0_driftWithScrew, Cond.code yX0_driftWithScrew cX0_driftWithScrew 1 (some .int), Cond.fieldLink RX0 18 "WinderLadders$Clock" "drift" "I", Cond.fieldLink RX0 21 "WinderLadders$Clock" "screw" "I"]
def wsX5_lasts : List Cond := .code yX5_lasts cX5_lasts 2 (some .int) :: ((wsX5_lasts_r1 ++ wsX5_lasts_r2) ++ wsX50 ++ wsX40 ++ wsX00)
def wsX5_needs_r1 : List Cond := [Cond.fieldLink RX5 12 "WinderLadders" "now" "LWinderLadders$State;", Cond.fieldLink RX5 144 "WinderLadders$State" "clockCount" "I", Cond.fieldLink RX5 45 "WinderLadders" "lasting" "[I", Cond.methodLink RX5 178 yX4_tellDaysUntilOff, Cond.instanceMethod yX4_tellDaysUntilOff, Cond.selects RX4 yX4_tellDaysUntilOff yX4_tellDaysUntilOff, Cond.initialized RX4, Cond.code yX4_tellDaysUntilOff cX4_tellDaysUntilOff 3 none, Cond.fieldLink RX4 34 "WinderLadders$State" "clockCount" "I", Cond.methodLink RX4 132 yX4_daysUntilOff, Cond.instanceMethod yX4_daysUntilOff, Cond.selects RX4 yX4_daysUntilOff yX4_daysUntilOff, Cond.code yX4_daysUntilOff cX4_daysUntilOff 2 (some .int), Cond.fieldLink RX4 17 "WinderLadders$State" "clocks" "[LWinderLadders$Clock;", Cond.fieldLink RX4 9 "WinderLadders$State" "settings" "[I", Cond.methodLink RX4 62 yX4_hasClock, Cond.instanceMethod yX4_hasClock, Cond.selects RX4 yX4_hasClock yX4_hasClock, Cond.code yX4_hasClock cX4_hasClock 2 (some .boolean), Cond.methodLink RX4 129 yX0_daysUntilOff, Cond.instanceMethod yX0_daysUntilOff, Cond.selects RX0 yX0_daysUntilOff yX0_daysUntilOff, Cond.initialized RX0, Cond.code yX0_daysUntilOff cX0_daysUntilOff 5 (some .int)]
def wsX5_needs_r2 : List Cond := [Cond.fieldLink RX0 27 "WinderLadders$Clock" "daysSinceWound" "I", Cond.methodLink RX0 55 Lib.Math.max.name, Cond.static Lib.Math.max.name, Cond.initialized "java/lang/Math", Cond.code Lib.Math.max.name Lib.Math.max.code 2 (some .int), Cond.fieldLink RX0 24 "WinderLadders$Clock" "off" "I", Cond.methodLink RX0 37 Lib.Math.abs.name, Cond.static Lib.Math.abs.name, Cond.code Lib.Math.abs.name Lib.Math.abs.code 1 (some .int), Cond.methodLink RX0 48 yX0_isOffBeyond, Cond.instanceMethod yX0_isOffBeyond, Cond.selects RX0 yX0_isOffBeyond yX0_isOffBeyond, Cond.code yX0_isOffBeyond cX0_isOffBeyond 2 (some .boolean), Cond.methodLink RX0 43 yX0_driftWithScrew, Cond.instanceMethod yX0_driftWithScrew, Cond.selects RX0 yX0_driftWithScrew yX0_driftWithScrew, Cond.code yX0_driftWithScrew cX0_driftWithScrew 1 (some .int), Cond.fieldLink RX0 18 "WinderLadders$Clock" "drift" "I", Cond.fieldLink RX0 21 "WinderLadders$Clock" "screw" "I", Cond.methodLink RX5 182 yX4_rankOf, Cond.instanceMethod yX4_rankOf, Cond.selects RX4 yX4_rankOf yX4_rankOf, Cond.code yX4_rankOf cX4_rankOf 5 (some .int)]
def wsX5_needs : List Cond := .code yX5_needs cX5_needs 3 (some .int) :: ((wsX5_needs_r1 ++ wsX5_needs_r2) ++ wsX50 ++ wsX40 ++ wsX00)
def wsX5_ladderFor : List Cond := .code yX5_ladderFor cX5_ladderFor 2 (some .int) :: ([.fieldLink RX5 12 "WinderLadders" "now" "LWinderLadders$State;", .fieldLink RX5 147 "WinderLadders$State" "ladderCount" "I", .methodLink RX5 186 yX4_rungsOutOfReach, .instanceMethod yX4_rungsOutOfReach, .selects RX4 yX4_rungsOutOfReach yX4_rungsOutOfReach, .initialized RX4, .code yX4_rungsOutOfReach cX4_rungsOutOfReach 3 (some .int), .fieldLink RX4 34 "WinderLadders$State" "clockCount" "I", .fieldLink RX4 17 "WinderLadders$State" "clocks" "[LWinderLadders$Clock;", .fieldLink RX4 116 "WinderLadders$Clock" "rungs" "I", .methodLink RX4 125 Lib.Math.max.name, .static Lib.Math.max.name, .initialized "java/lang/Math", .code Lib.Math.max.name Lib.Math.max.code 2 (some .int), .methodLink RX4 97 yX4_canBeWound, .instanceMethod yX4_canBeWound, .selects RX4 yX4_canBeWound yX4_canBeWound, .code yX4_canBeWound cX4_canBeWound 2 (some .boolean), .methodLink RX4 112 yX4_ladderNeeded, .instanceMethod yX4_ladderNeeded, .selects RX4 yX4_ladderNeeded yX4_ladderNeeded, .code yX4_ladderNeeded cX4_ladderNeeded 5 (some .int), .fieldLink RX4 42 "WinderLadders$State" "ladderCount" "I", .fieldLink RX4 21 "WinderLadders$State" "ladders" "[I"] ++ wsX50 ++ wsX40 ++ wsX00)
def wsX5_wayRound_r1 : List Cond := [Cond.fieldLink RX5 12 "WinderLadders" "now" "LWinderLadders$State;", Cond.fieldLink RX5 41 "WinderLadders" "row" "LWinderLadders$Row;", Cond.methodLink RX5 71 yX5_chooseRow, Cond.instanceMethod yX5_chooseRow, Cond.selects RX5 yX5_chooseRow yX5_chooseRow, Cond.initialized RX5, Cond.code yX5_chooseRow cX5_chooseRow 3 (some .int), Cond.fieldLink RX5 144 "WinderLadders$State" "clockCount" "I", Cond.fieldLink RX5 226 "WinderLadders$Row" "length" "I", Cond.methodLink RX5 220 yX3_clear, Cond.instanceMethod yX3_clear, Cond.selects RX3 yX3_clear yX3_clear, Cond.initialized RX3, Cond.code yX3_clear cX3_clear 1 none, Cond.fieldLink RX3 15 "WinderLadders$Row" "length" "I", Cond.methodLink RX5 223 yX3_add, Cond.instanceMethod yX3_add, Cond.selects RX3 yX3_add yX3_add, Cond.code yX3_add cX3_add 2 (some .boolean), Cond.fieldLink RX3 9 "WinderLadders$Row" "numbers" "[I", Cond.methodLink RX5 172 yX4_minutesOf, Cond.instanceMethod yX4_minutesOf, Cond.selects RX4 yX4_minutesOf yX4_minutesOf, Cond.initialized RX4]
def wsX5_wayRound_r2 : List Cond := [Cond.code yX4_minutesOf cX4_minutesOf 10 (some .int), Cond.fieldLink RX4 88 "WinderLadders$Row" "length" "I", Cond.fieldLink RX4 17 "WinderLadders$State" "clocks" "[LWinderLadders$Clock;", Cond.fieldLink RX4 104 "WinderLadders$Clock" "house" "I", Cond.methodLink RX4 107 Lib.Math.abs.name, Cond.static Lib.Math.abs.name, Cond.initialized "java/lang/Math", Cond.code Lib.Math.abs.name Lib.Math.abs.code 1 (some .int), Cond.fieldLink RX4 9 "WinderLadders$State" "settings" "[I", Cond.methodLink RX4 93 yX3_at, Cond.instanceMethod yX3_at, Cond.selects RX3 yX3_at yX3_at, Cond.code yX3_at cX3_at 2 (some .int), Cond.methodLink RX4 62 yX4_hasClock, Cond.instanceMethod yX4_hasClock, Cond.selects RX4 yX4_hasClock yX4_hasClock, Cond.code yX4_hasClock cX4_hasClock 2 (some .boolean), Cond.fieldLink RX4 34 "WinderLadders$State" "clockCount" "I", Cond.methodLink RX4 112 yX4_ladderNeeded, Cond.instanceMethod yX4_ladderNeeded, Cond.selects RX4 yX4_ladderNeeded yX4_ladderNeeded, Cond.code yX4_ladderNeeded cX4_ladderNeeded 5 (some .int), Cond.fieldLink RX4 116 "WinderLadders$Clock" "rungs" "I", Cond.fieldLink RX4 42 "WinderLadders$State" "ladderCount" "I"]
def wsX5_wayRound_r3 : List Cond := [Cond.fieldLink RX4 21 "WinderLadders$State" "ladders" "[I", Cond.methodLink RX4 97 yX4_canBeWound, Cond.instanceMethod yX4_canBeWound, Cond.selects RX4 yX4_canBeWound yX4_canBeWound, Cond.code yX4_canBeWound cX4_canBeWound 2 (some .boolean), Cond.methodLink RX5 189 yX3_turnRound, Cond.instanceMethod yX3_turnRound, Cond.selects RX3 yX3_turnRound yX3_turnRound, Cond.code yX3_turnRound cX3_turnRound 3 none]
def wsX5_wayRound : List Cond := .code yX5_wayRound cX5_wayRound 5 (some .int) :: ((wsX5_wayRound_r1 ++ (wsX5_wayRound_r2 ++ wsX5_wayRound_r3)) ++ wsX50 ++ wsX40 ++ wsX30 ++ wsX00)
def wsX5_codeAt : List Cond := .code yX5_codeAt cX5_codeAt 3 (some .int) :: ([])
def wsX5_signsIn : List Cond := .code yX5_signsIn cX5_signsIn 4 (some .int) :: ([.methodLink RX5 196 yX5_codeAt, .static yX5_codeAt, .initialized RX5, .code yX5_codeAt cX5_codeAt 3 (some .int)])
def wsX5_put : List Cond := .code yX5_put cX5_put 5 (some .int) :: ([.fieldLink RX5 34 "WinderLadders" "pad" "LWinderLadders$Pad;", .fieldLink RX5 166 "WinderLadders$Pad" "length" "I", .methodLink RX5 192 yX5_signsIn, .static yX5_signsIn, .initialized RX5, .code yX5_signsIn cX5_signsIn 4 (some .int), .methodLink RX5 196 yX5_codeAt, .static yX5_codeAt, .code yX5_codeAt cX5_codeAt 3 (some .int), .methodLink RX5 200 yX2_append, .instanceMethod yX2_append, .selects RX2 yX2_append yX2_append, .initialized RX2, .code yX2_append cX2_append 2 none, .fieldLink RX2 22 "WinderLadders$Pad" "length" "I", .fieldLink RX2 9 "WinderLadders$Pad" "signs" "[C"] ++ wsX50 ++ wsX20)
def wsX5_wipe : List Cond := .code yX5_wipe cX5_wipe 2 (some .int) :: ([.fieldLink RX5 34 "WinderLadders" "pad" "LWinderLadders$Pad;", .fieldLink RX5 166 "WinderLadders$Pad" "length" "I"] ++ wsX50 ++ wsX20)
def wsX5_fault_r1 : List Cond := [Cond.fieldLink RX5 34 "WinderLadders" "pad" "LWinderLadders$Pad;", Cond.methodLink RX5 204 yX2_findFault, Cond.instanceMethod yX2_findFault, Cond.selects RX2 yX2_findFault yX2_findFault, Cond.initialized RX2, Cond.code yX2_findFault cX2_findFault 2 (some .int), Cond.fieldLink RX2 33 "WinderLadders$Pad" "place" "I", Cond.fieldLink RX2 22 "WinderLadders$Pad" "length" "I", Cond.methodLink RX2 26 yX2_goToStart, Cond.instanceMethod yX2_goToStart, Cond.selects RX2 yX2_goToStart yX2_goToStart, Cond.code yX2_goToStart cX2_goToStart 1 none, Cond.methodLink RX2 29 yX2_readNext, Cond.instanceMethod yX2_readNext, Cond.selects RX2 yX2_readNext yX2_readNext, Cond.code yX2_readNext cX2_readNext 1 (some .boolean), Cond.fieldLink RX2 18 "WinderLadders$Pad" "numbers" "LWinderLadders$Row;", Cond.fieldLink RX2 47 "WinderLadders$Pad" "kind" "I", Cond.methodLink RX2 36 yX2_take, Cond.instanceMethod yX2_take, Cond.selects RX2 yX2_take yX2_take, Cond.code yX2_take cX2_take 2 (some .boolean), Cond.methodLink RX2 43 yX2_here, Cond.instanceMethod yX2_here]
def wsX5_fault_r2 : List Cond := [Cond.selects RX2 yX2_here yX2_here, Cond.code yX2_here cX2_here 1 (some .char), Cond.fieldLink RX2 9 "WinderLadders$Pad" "signs" "[C", Cond.methodLink RX2 40 yX3_clear, Cond.instanceMethod yX3_clear, Cond.selects RX3 yX3_clear yX3_clear, Cond.initialized RX3, Cond.code yX3_clear cX3_clear 1 none, Cond.fieldLink RX3 15 "WinderLadders$Row" "length" "I", Cond.methodLink RX2 50 yX2_readNumber, Cond.instanceMethod yX2_readNumber, Cond.selects RX2 yX2_readNumber yX2_readNumber, Cond.code yX2_readNumber cX2_readNumber 3 (some .boolean), Cond.methodLink RX2 60 yX2_isDigit, Cond.static yX2_isDigit, Cond.code yX2_isDigit cX2_isDigit 1 (some .boolean), Cond.methodLink RX2 63 yX3_add, Cond.instanceMethod yX3_add, Cond.selects RX3 yX3_add yX3_add, Cond.code yX3_add cX3_add 2 (some .boolean), Cond.fieldLink RX3 9 "WinderLadders$Row" "numbers" "[I", Cond.methodLink RX2 54 yX2_readValue, Cond.instanceMethod yX2_readValue, Cond.selects RX2 yX2_readValue yX2_readValue]
def wsX5_fault_r3 : List Cond := [Cond.code yX2_readValue cX2_readValue 1 (some .boolean), Cond.methodLink RX2 57 yX2_readNumbers, Cond.instanceMethod yX2_readNumbers, Cond.selects RX2 yX2_readNumbers yX2_readNumbers, Cond.code yX2_readNumbers cX2_readNumbers 2 (some .boolean)]
def wsX5_fault : List Cond := .code yX5_fault cX5_fault 1 (some .int) :: ((wsX5_fault_r1 ++ (wsX5_fault_r2 ++ wsX5_fault_r3)) ++ wsX50 ++ wsX20 ++ wsX30)
def wsX5_carryOneOut_r1 : List Cond := [Cond.fieldLink RX5 34 "WinderLadders" "pad" "LWinderLadders$Pad;", Cond.fieldLink RX5 237 "WinderLadders$Pad" "numbers" "LWinderLadders$Row;", Cond.fieldLink RX5 240 "WinderLadders$Pad" "kind" "I", Cond.fieldLink RX5 12 "WinderLadders" "now" "LWinderLadders$State;", Cond.methodLink RX5 243 yX3_at, Cond.instanceMethod yX3_at, Cond.selects RX3 yX3_at yX3_at, Cond.initialized RX3, Cond.code yX3_at cX3_at 2 (some .int), Cond.fieldLink RX3 15 "WinderLadders$Row" "length" "I", Cond.fieldLink RX3 9 "WinderLadders$Row" "numbers" "[I", Cond.methodLink RX5 61 yX4_addClock, Cond.instanceMethod yX4_addClock, Cond.selects RX4 yX4_addClock yX4_addClock, Cond.initialized RX4, Cond.code yX4_addClock cX4_addClock 4 (some .int), Cond.fieldLink RX4 34 "WinderLadders$State" "clockCount" "I", Cond.fieldLink RX4 17 "WinderLadders$State" "clocks" "[LWinderLadders$Clock;", Cond.static yX5_isWithin, Cond.initialized RX5, Cond.code yX5_isWithin cX5_isWithin 3 (some .boolean), Cond.methodLink RX4 58 yX0_begin, Cond.instanceMethod yX0_begin, Cond.selects RX0 yX0_begin yX0_begin]
def wsX5_carryOneOut_r2 : List Cond := [Cond.initialized RX0, Cond.code yX0_begin cX0_begin 4 none, Cond.fieldLink RX0 9 "WinderLadders$Clock" "house" "I", Cond.fieldLink RX0 15 "WinderLadders$Clock" "rungs" "I", Cond.fieldLink RX0 18 "WinderLadders$Clock" "drift" "I", Cond.fieldLink RX0 21 "WinderLadders$Clock" "screw" "I", Cond.fieldLink RX0 24 "WinderLadders$Clock" "off" "I", Cond.fieldLink RX0 27 "WinderLadders$Clock" "daysSinceWound" "I", Cond.fieldLink RX0 30 "WinderLadders$Clock" "timesWound" "I", Cond.fieldLink RX0 33 "WinderLadders$Clock" "goes" "Z", Cond.methodLink RX5 65 yX4_addLadder, Cond.instanceMethod yX4_addLadder, Cond.selects RX4 yX4_addLadder yX4_addLadder, Cond.code yX4_addLadder cX4_addLadder 2 (some .int), Cond.fieldLink RX4 42 "WinderLadders$State" "ladderCount" "I", Cond.fieldLink RX4 21 "WinderLadders$State" "ladders" "[I", Cond.methodLink RX5 74 yX4_walkBeat, Cond.instanceMethod yX4_walkBeat, Cond.selects RX4 yX4_walkBeat yX4_walkBeat, Cond.code yX4_walkBeat cX4_walkBeat 5 (some .int), Cond.fieldLink RX4 88 "WinderLadders$Row" "length" "I", Cond.fieldLink RX4 9 "WinderLadders$State" "settings" "[I", Cond.fieldLink RX4 48 "WinderLadders$State" "minutes" "I", Cond.methodLink RX4 84 yX4_minutesOf]
def wsX5_carryOneOut_r3 : List Cond := [Cond.instanceMethod yX4_minutesOf, Cond.selects RX4 yX4_minutesOf yX4_minutesOf, Cond.code yX4_minutesOf cX4_minutesOf 10 (some .int), Cond.fieldLink RX4 104 "WinderLadders$Clock" "house" "I", Cond.methodLink RX4 107 Lib.Math.abs.name, Cond.static Lib.Math.abs.name, Cond.initialized "java/lang/Math", Cond.code Lib.Math.abs.name Lib.Math.abs.code 1 (some .int), Cond.methodLink RX4 93 yX3_at, Cond.methodLink RX4 62 yX4_hasClock, Cond.instanceMethod yX4_hasClock, Cond.selects RX4 yX4_hasClock yX4_hasClock, Cond.code yX4_hasClock cX4_hasClock 2 (some .boolean), Cond.methodLink RX4 112 yX4_ladderNeeded, Cond.instanceMethod yX4_ladderNeeded, Cond.selects RX4 yX4_ladderNeeded yX4_ladderNeeded, Cond.code yX4_ladderNeeded cX4_ladderNeeded 5 (some .int), Cond.fieldLink RX4 116 "WinderLadders$Clock" "rungs" "I", Cond.methodLink RX4 97 yX4_canBeWound, Cond.instanceMethod yX4_canBeWound, Cond.selects RX4 yX4_canBeWound yX4_canBeWound, Cond.code yX4_canBeWound cX4_canBeWound 2 (some .boolean), Cond.methodLink RX4 101 yX0_windAndSet, Cond.instanceMethod yX0_windAndSet]
def wsX5_carryOneOut_r4 : List Cond := [Cond.selects RX0 yX0_windAndSet yX0_windAndSet, Cond.code yX0_windAndSet cX0_windAndSet 2 none, Cond.methodLink RX0 48 yX0_isOffBeyond, Cond.instanceMethod yX0_isOffBeyond, Cond.selects RX0 yX0_isOffBeyond yX0_isOffBeyond, Cond.code yX0_isOffBeyond cX0_isOffBeyond 2 (some .boolean), Cond.methodLink RX0 37 Lib.Math.abs.name, Cond.methodLink RX0 52 yX0_turnByRule, Cond.instanceMethod yX0_turnByRule, Cond.selects RX0 yX0_turnByRule yX0_turnByRule, Cond.code yX0_turnByRule cX0_turnByRule 2 none, Cond.methodLink RX0 43 yX0_driftWithScrew, Cond.instanceMethod yX0_driftWithScrew, Cond.selects RX0 yX0_driftWithScrew yX0_driftWithScrew, Cond.code yX0_driftWithScrew cX0_driftWithScrew 1 (some .int), Cond.methodLink RX5 78 yX4_passDays, Cond.instanceMethod yX4_passDays, Cond.selects RX4 yX4_passDays yX4_passDays, Cond.code yX4_passDays cX4_passDays 4 (some .int), Cond.fieldLink RX4 45 "WinderLadders$State" "days" "I", Cond.methodLink RX4 69 yX0_passDay, Cond.instanceMethod yX0_passDay, Cond.selects RX0 yX0_passDay yX0_passDay, Cond.code yX0_passDay cX0_passDay 2 none]
def wsX5_carryOneOut_r5 : List Cond := [Cond.constant RX0 47 (43200), Cond.methodLink RX4 73 yX4_numberThatGo, Cond.instanceMethod yX4_numberThatGo, Cond.selects RX4 yX4_numberThatGo yX4_numberThatGo, Cond.code yX4_numberThatGo cX4_numberThatGo 3 (some .int), Cond.fieldLink RX4 77 "WinderLadders$Clock" "goes" "Z", Cond.methodLink RX5 81 yX4_changeClocks, Cond.instanceMethod yX4_changeClocks, Cond.selects RX4 yX4_changeClocks yX4_changeClocks, Cond.code yX4_changeClocks cX4_changeClocks 4 (some .int), Cond.fieldLink RX4 81 "WinderLadders$Clock" "off" "I"]
def wsX5_carryOneOut : List Cond := .code yX5_carryOneOut cX5_carryOneOut 2 (some .int) :: ((wsX5_carryOneOut_r1 ++ (wsX5_carryOneOut_r2 ++ (wsX5_carryOneOut_r3 ++ (wsX5_carryOneOut_r4 ++ wsX5_carryOneOut_r5)))) ++ wsX50 ++ wsX20 ++ wsX30 ++ wsX40 ++ wsX00)
def wsX5_carryOrdersOut_r1 : List Cond := [Cond.fieldLink RX5 34 "WinderLadders" "pad" "LWinderLadders$Pad;", Cond.methodLink RX5 227 yX2_goToStart, Cond.instanceMethod yX2_goToStart, Cond.selects RX2 yX2_goToStart yX2_goToStart, Cond.initialized RX2, Cond.code yX2_goToStart cX2_goToStart 1 none, Cond.fieldLink RX2 33 "WinderLadders$Pad" "place" "I", Cond.methodLink RX5 230 yX2_readNext, Cond.instanceMethod yX2_readNext, Cond.selects RX2 yX2_readNext yX2_readNext, Cond.code yX2_readNext cX2_readNext 1 (some .boolean), Cond.fieldLink RX2 18 "WinderLadders$Pad" "numbers" "LWinderLadders$Row;", Cond.fieldLink RX2 47 "WinderLadders$Pad" "kind" "I", Cond.methodLink RX2 36 yX2_take, Cond.instanceMethod yX2_take, Cond.selects RX2 yX2_take yX2_take, Cond.code yX2_take cX2_take 2 (some .boolean), Cond.methodLink RX2 43 yX2_here, Cond.instanceMethod yX2_here, Cond.selects RX2 yX2_here yX2_here, Cond.code yX2_here cX2_here 1 (some .char), Cond.fieldLink RX2 22 "WinderLadders$Pad" "length" "I", Cond.fieldLink RX2 9 "WinderLadders$Pad" "signs" "[C", Cond.methodLink RX2 40 yX3_clear]
def wsX5_carryOrdersOut_r2 : List Cond := [Cond.instanceMethod yX3_clear, Cond.selects RX3 yX3_clear yX3_clear, Cond.initialized RX3, Cond.code yX3_clear cX3_clear 1 none, Cond.fieldLink RX3 15 "WinderLadders$Row" "length" "I", Cond.methodLink RX2 50 yX2_readNumber, Cond.instanceMethod yX2_readNumber, Cond.selects RX2 yX2_readNumber yX2_readNumber, Cond.code yX2_readNumber cX2_readNumber 3 (some .boolean), Cond.methodLink RX2 60 yX2_isDigit, Cond.static yX2_isDigit, Cond.code yX2_isDigit cX2_isDigit 1 (some .boolean), Cond.methodLink RX2 63 yX3_add, Cond.instanceMethod yX3_add, Cond.selects RX3 yX3_add yX3_add, Cond.code yX3_add cX3_add 2 (some .boolean), Cond.fieldLink RX3 9 "WinderLadders$Row" "numbers" "[I", Cond.methodLink RX2 54 yX2_readValue, Cond.instanceMethod yX2_readValue, Cond.selects RX2 yX2_readValue yX2_readValue, Cond.code yX2_readValue cX2_readValue 1 (some .boolean), Cond.methodLink RX2 57 yX2_readNumbers, Cond.instanceMethod yX2_readNumbers, Cond.selects RX2 yX2_readNumbers yX2_readNumbers]
def wsX5_carryOrdersOut_r3 : List Cond := [Cond.code yX2_readNumbers cX2_readNumbers 2 (some .boolean), Cond.methodLink RX5 234 yX5_carryOneOut, Cond.instanceMethod yX5_carryOneOut, Cond.selects RX5 yX5_carryOneOut yX5_carryOneOut, Cond.initialized RX5, Cond.code yX5_carryOneOut cX5_carryOneOut 2 (some .int), Cond.fieldLink RX5 237 "WinderLadders$Pad" "numbers" "LWinderLadders$Row;", Cond.fieldLink RX5 240 "WinderLadders$Pad" "kind" "I", Cond.fieldLink RX5 12 "WinderLadders" "now" "LWinderLadders$State;", Cond.methodLink RX5 243 yX3_at, Cond.instanceMethod yX3_at, Cond.selects RX3 yX3_at yX3_at, Cond.code yX3_at cX3_at 2 (some .int), Cond.methodLink RX5 61 yX4_addClock, Cond.instanceMethod yX4_addClock, Cond.selects RX4 yX4_addClock yX4_addClock, Cond.initialized RX4, Cond.code yX4_addClock cX4_addClock 4 (some .int), Cond.fieldLink RX4 34 "WinderLadders$State" "clockCount" "I", Cond.fieldLink RX4 17 "WinderLadders$State" "clocks" "[LWinderLadders$Clock;", Cond.static yX5_isWithin, Cond.code yX5_isWithin cX5_isWithin 3 (some .boolean), Cond.methodLink RX4 58 yX0_begin, Cond.instanceMethod yX0_begin]
def wsX5_carryOrdersOut_r4 : List Cond := [Cond.selects RX0 yX0_begin yX0_begin, Cond.initialized RX0, Cond.code yX0_begin cX0_begin 4 none, Cond.fieldLink RX0 9 "WinderLadders$Clock" "house" "I", Cond.fieldLink RX0 15 "WinderLadders$Clock" "rungs" "I", Cond.fieldLink RX0 18 "WinderLadders$Clock" "drift" "I", Cond.fieldLink RX0 21 "WinderLadders$Clock" "screw" "I", Cond.fieldLink RX0 24 "WinderLadders$Clock" "off" "I", Cond.fieldLink RX0 27 "WinderLadders$Clock" "daysSinceWound" "I", Cond.fieldLink RX0 30 "WinderLadders$Clock" "timesWound" "I", Cond.fieldLink RX0 33 "WinderLadders$Clock" "goes" "Z", Cond.methodLink RX5 65 yX4_addLadder, Cond.instanceMethod yX4_addLadder, Cond.selects RX4 yX4_addLadder yX4_addLadder, Cond.code yX4_addLadder cX4_addLadder 2 (some .int), Cond.fieldLink RX4 42 "WinderLadders$State" "ladderCount" "I", Cond.fieldLink RX4 21 "WinderLadders$State" "ladders" "[I", Cond.methodLink RX5 74 yX4_walkBeat, Cond.instanceMethod yX4_walkBeat, Cond.selects RX4 yX4_walkBeat yX4_walkBeat, Cond.code yX4_walkBeat cX4_walkBeat 5 (some .int), Cond.fieldLink RX4 88 "WinderLadders$Row" "length" "I", Cond.fieldLink RX4 9 "WinderLadders$State" "settings" "[I", Cond.fieldLink RX4 48 "WinderLadders$State" "minutes" "I"]
def wsX5_carryOrdersOut_r5 : List Cond := [Cond.methodLink RX4 84 yX4_minutesOf, Cond.instanceMethod yX4_minutesOf, Cond.selects RX4 yX4_minutesOf yX4_minutesOf, Cond.code yX4_minutesOf cX4_minutesOf 10 (some .int), Cond.fieldLink RX4 104 "WinderLadders$Clock" "house" "I", Cond.methodLink RX4 107 Lib.Math.abs.name, Cond.static Lib.Math.abs.name, Cond.initialized "java/lang/Math", Cond.code Lib.Math.abs.name Lib.Math.abs.code 1 (some .int), Cond.methodLink RX4 93 yX3_at, Cond.methodLink RX4 62 yX4_hasClock, Cond.instanceMethod yX4_hasClock, Cond.selects RX4 yX4_hasClock yX4_hasClock, Cond.code yX4_hasClock cX4_hasClock 2 (some .boolean), Cond.methodLink RX4 112 yX4_ladderNeeded, Cond.instanceMethod yX4_ladderNeeded, Cond.selects RX4 yX4_ladderNeeded yX4_ladderNeeded, Cond.code yX4_ladderNeeded cX4_ladderNeeded 5 (some .int), Cond.fieldLink RX4 116 "WinderLadders$Clock" "rungs" "I", Cond.methodLink RX4 97 yX4_canBeWound, Cond.instanceMethod yX4_canBeWound, Cond.selects RX4 yX4_canBeWound yX4_canBeWound, Cond.code yX4_canBeWound cX4_canBeWound 2 (some .boolean), Cond.methodLink RX4 101 yX0_windAndSet]
def wsX5_carryOrdersOut_r6 : List Cond := [Cond.instanceMethod yX0_windAndSet, Cond.selects RX0 yX0_windAndSet yX0_windAndSet, Cond.code yX0_windAndSet cX0_windAndSet 2 none, Cond.methodLink RX0 48 yX0_isOffBeyond, Cond.instanceMethod yX0_isOffBeyond, Cond.selects RX0 yX0_isOffBeyond yX0_isOffBeyond, Cond.code yX0_isOffBeyond cX0_isOffBeyond 2 (some .boolean), Cond.methodLink RX0 37 Lib.Math.abs.name, Cond.methodLink RX0 52 yX0_turnByRule, Cond.instanceMethod yX0_turnByRule, Cond.selects RX0 yX0_turnByRule yX0_turnByRule, Cond.code yX0_turnByRule cX0_turnByRule 2 none, Cond.methodLink RX0 43 yX0_driftWithScrew, Cond.instanceMethod yX0_driftWithScrew, Cond.selects RX0 yX0_driftWithScrew yX0_driftWithScrew, Cond.code yX0_driftWithScrew cX0_driftWithScrew 1 (some .int), Cond.methodLink RX5 78 yX4_passDays, Cond.instanceMethod yX4_passDays, Cond.selects RX4 yX4_passDays yX4_passDays, Cond.code yX4_passDays cX4_passDays 4 (some .int), Cond.fieldLink RX4 45 "WinderLadders$State" "days" "I", Cond.methodLink RX4 69 yX0_passDay, Cond.instanceMethod yX0_passDay, Cond.selects RX0 yX0_passDay yX0_passDay]
def wsX5_carryOrdersOut_r7 : List Cond := [Cond.code yX0_passDay cX0_passDay 2 none, Cond.constant RX0 47 (43200), Cond.methodLink RX4 73 yX4_numberThatGo, Cond.instanceMethod yX4_numberThatGo, Cond.selects RX4 yX4_numberThatGo yX4_numberThatGo, Cond.code yX4_numberThatGo cX4_numberThatGo 3 (some .int), Cond.fieldLink RX4 77 "WinderLadders$Clock" "goes" "Z", Cond.methodLink RX5 81 yX4_changeClocks, Cond.instanceMethod yX4_changeClocks, Cond.selects RX4 yX4_changeClocks yX4_changeClocks, Cond.code yX4_changeClocks cX4_changeClocks 4 (some .int), Cond.fieldLink RX4 81 "WinderLadders$Clock" "off" "I"]
def wsX5_carryOrdersOut : List Cond := .code yX5_carryOrdersOut cX5_carryOrdersOut 2 (some .int) :: ((wsX5_carryOrdersOut_r1 ++ (wsX5_carryOrdersOut_r2 ++ (wsX5_carryOrdersOut_r3 ++ (wsX5_carryOrdersOut_r4 ++ (wsX5_carryOrdersOut_r5 ++ (wsX5_carryOrdersOut_r6 ++ wsX5_carryOrdersOut_r7)))))) ++ wsX50 ++ wsX20 ++ wsX30 ++ wsX40 ++ wsX00)
def wsX5_carryOut_r1 : List Cond := [Cond.fieldLink RX5 34 "WinderLadders" "pad" "LWinderLadders$Pad;", Cond.fieldLink RX5 19 "WinderLadders" "history" "LWinderLadders$History;", Cond.fieldLink RX5 12 "WinderLadders" "now" "LWinderLadders$State;", Cond.fieldLink RX5 166 "WinderLadders$Pad" "length" "I", Cond.methodLink RX5 204 yX2_findFault, Cond.instanceMethod yX2_findFault, Cond.selects RX2 yX2_findFault yX2_findFault, Cond.initialized RX2, Cond.code yX2_findFault cX2_findFault 2 (some .int), Cond.fieldLink RX2 33 "WinderLadders$Pad" "place" "I", Cond.fieldLink RX2 22 "WinderLadders$Pad" "length" "I", Cond.methodLink RX2 26 yX2_goToStart, Cond.instanceMethod yX2_goToStart, Cond.selects RX2 yX2_goToStart yX2_goToStart, Cond.code yX2_goToStart cX2_goToStart 1 none, Cond.methodLink RX2 29 yX2_readNext, Cond.instanceMethod yX2_readNext, Cond.selects RX2 yX2_readNext yX2_readNext, Cond.code yX2_readNext cX2_readNext 1 (some .boolean), Cond.fieldLink RX2 18 "WinderLadders$Pad" "numbers" "LWinderLadders$Row;", Cond.fieldLink RX2 47 "WinderLadders$Pad" "kind" "I", Cond.methodLink RX2 36 yX2_take, Cond.instanceMethod yX2_take, Cond.selects RX2 yX2_take yX2_take]
def wsX5_carryOut_r2 : List Cond := [Cond.code yX2_take cX2_take 2 (some .boolean), Cond.methodLink RX2 43 yX2_here, Cond.instanceMethod yX2_here, Cond.selects RX2 yX2_here yX2_here, Cond.code yX2_here cX2_here 1 (some .char), Cond.fieldLink RX2 9 "WinderLadders$Pad" "signs" "[C", Cond.methodLink RX2 40 yX3_clear, Cond.instanceMethod yX3_clear, Cond.selects RX3 yX3_clear yX3_clear, Cond.initialized RX3, Cond.code yX3_clear cX3_clear 1 none, Cond.fieldLink RX3 15 "WinderLadders$Row" "length" "I", Cond.methodLink RX2 50 yX2_readNumber, Cond.instanceMethod yX2_readNumber, Cond.selects RX2 yX2_readNumber yX2_readNumber, Cond.code yX2_readNumber cX2_readNumber 3 (some .boolean), Cond.methodLink RX2 60 yX2_isDigit, Cond.static yX2_isDigit, Cond.code yX2_isDigit cX2_isDigit 1 (some .boolean), Cond.methodLink RX2 63 yX3_add, Cond.instanceMethod yX3_add, Cond.selects RX3 yX3_add yX3_add, Cond.code yX3_add cX3_add 2 (some .boolean), Cond.fieldLink RX3 9 "WinderLadders$Row" "numbers" "[I"]
def wsX5_carryOut_r3 : List Cond := [Cond.methodLink RX2 54 yX2_readValue, Cond.instanceMethod yX2_readValue, Cond.selects RX2 yX2_readValue yX2_readValue, Cond.code yX2_readValue cX2_readValue 1 (some .boolean), Cond.methodLink RX2 57 yX2_readNumbers, Cond.instanceMethod yX2_readNumbers, Cond.selects RX2 yX2_readNumbers yX2_readNumbers, Cond.code yX2_readNumbers cX2_readNumbers 2 (some .boolean), Cond.methodLink RX5 49 yX1_prepare, Cond.instanceMethod yX1_prepare, Cond.selects RX1 yX1_prepare yX1_prepare, Cond.initialized RX1, Cond.code yX1_prepare cX1_prepare 2 none, Cond.fieldLink RX1 11 "WinderLadders$History" "states" "[LWinderLadders$State;", Cond.fieldLink RX1 18 "WinderLadders$History" "depth" "I", Cond.methodLink RX1 22 yX4_copyFrom, Cond.instanceMethod yX4_copyFrom, Cond.selects RX4 yX4_copyFrom yX4_copyFrom, Cond.initialized RX4, Cond.code yX4_copyFrom cX4_copyFrom 3 none, Cond.fieldLink RX4 9 "WinderLadders$State" "settings" "[I", Cond.methodLink RX4 27 arraycopyName, Cond.native arraycopyName, Cond.static arraycopyName]
def wsX5_carryOut_r4 : List Cond := [Cond.initialized "java/lang/System", Cond.fieldLink RX4 21 "WinderLadders$State" "ladders" "[I", Cond.fieldLink RX4 34 "WinderLadders$State" "clockCount" "I", Cond.fieldLink RX4 17 "WinderLadders$State" "clocks" "[LWinderLadders$Clock;", Cond.fieldLink RX4 42 "WinderLadders$State" "ladderCount" "I", Cond.fieldLink RX4 45 "WinderLadders$State" "days" "I", Cond.fieldLink RX4 48 "WinderLadders$State" "minutes" "I", Cond.methodLink RX4 38 yX0_copyFrom, Cond.instanceMethod yX0_copyFrom, Cond.selects RX0 yX0_copyFrom yX0_copyFrom, Cond.initialized RX0, Cond.code yX0_copyFrom cX0_copyFrom 2 none, Cond.fieldLink RX0 9 "WinderLadders$Clock" "house" "I", Cond.fieldLink RX0 15 "WinderLadders$Clock" "rungs" "I", Cond.fieldLink RX0 18 "WinderLadders$Clock" "drift" "I", Cond.fieldLink RX0 21 "WinderLadders$Clock" "screw" "I", Cond.fieldLink RX0 24 "WinderLadders$Clock" "off" "I", Cond.fieldLink RX0 27 "WinderLadders$Clock" "daysSinceWound" "I", Cond.fieldLink RX0 30 "WinderLadders$Clock" "timesWound" "I", Cond.fieldLink RX0 33 "WinderLadders$Clock" "goes" "Z", Cond.methodLink RX5 207 yX5_carryOrdersOut, Cond.instanceMethod yX5_carryOrdersOut, Cond.selects RX5 yX5_carryOrdersOut yX5_carryOrdersOut, Cond.initialized RX5]
def wsX5_carryOut_r5 : List Cond := [Cond.code yX5_carryOrdersOut cX5_carryOrdersOut 2 (some .int), Cond.methodLink RX5 227 yX2_goToStart, Cond.methodLink RX5 230 yX2_readNext, Cond.methodLink RX5 234 yX5_carryOneOut, Cond.instanceMethod yX5_carryOneOut, Cond.selects RX5 yX5_carryOneOut yX5_carryOneOut, Cond.code yX5_carryOneOut cX5_carryOneOut 2 (some .int), Cond.fieldLink RX5 237 "WinderLadders$Pad" "numbers" "LWinderLadders$Row;", Cond.fieldLink RX5 240 "WinderLadders$Pad" "kind" "I", Cond.methodLink RX5 243 yX3_at, Cond.instanceMethod yX3_at, Cond.selects RX3 yX3_at yX3_at, Cond.code yX3_at cX3_at 2 (some .int), Cond.methodLink RX5 61 yX4_addClock, Cond.instanceMethod yX4_addClock, Cond.selects RX4 yX4_addClock yX4_addClock, Cond.code yX4_addClock cX4_addClock 4 (some .int), Cond.static yX5_isWithin, Cond.code yX5_isWithin cX5_isWithin 3 (some .boolean), Cond.methodLink RX4 58 yX0_begin, Cond.instanceMethod yX0_begin, Cond.selects RX0 yX0_begin yX0_begin, Cond.code yX0_begin cX0_begin 4 none, Cond.methodLink RX5 65 yX4_addLadder]
def wsX5_carryOut_r6 : List Cond := [Cond.instanceMethod yX4_addLadder, Cond.selects RX4 yX4_addLadder yX4_addLadder, Cond.code yX4_addLadder cX4_addLadder 2 (some .int), Cond.methodLink RX5 74 yX4_walkBeat, Cond.instanceMethod yX4_walkBeat, Cond.selects RX4 yX4_walkBeat yX4_walkBeat, Cond.code yX4_walkBeat cX4_walkBeat 5 (some .int), Cond.fieldLink RX4 88 "WinderLadders$Row" "length" "I", Cond.methodLink RX4 84 yX4_minutesOf, Cond.instanceMethod yX4_minutesOf, Cond.selects RX4 yX4_minutesOf yX4_minutesOf, Cond.code yX4_minutesOf cX4_minutesOf 10 (some .int), Cond.fieldLink RX4 104 "WinderLadders$Clock" "house" "I", Cond.methodLink RX4 107 Lib.Math.abs.name, Cond.static Lib.Math.abs.name, Cond.initialized "java/lang/Math", Cond.code Lib.Math.abs.name Lib.Math.abs.code 1 (some .int), Cond.methodLink RX4 93 yX3_at, Cond.methodLink RX4 62 yX4_hasClock, Cond.instanceMethod yX4_hasClock, Cond.selects RX4 yX4_hasClock yX4_hasClock, Cond.code yX4_hasClock cX4_hasClock 2 (some .boolean), Cond.methodLink RX4 112 yX4_ladderNeeded, Cond.instanceMethod yX4_ladderNeeded]
def wsX5_carryOut_r7 : List Cond := [Cond.selects RX4 yX4_ladderNeeded yX4_ladderNeeded, Cond.code yX4_ladderNeeded cX4_ladderNeeded 5 (some .int), Cond.fieldLink RX4 116 "WinderLadders$Clock" "rungs" "I", Cond.methodLink RX4 97 yX4_canBeWound, Cond.instanceMethod yX4_canBeWound, Cond.selects RX4 yX4_canBeWound yX4_canBeWound, Cond.code yX4_canBeWound cX4_canBeWound 2 (some .boolean), Cond.methodLink RX4 101 yX0_windAndSet, Cond.instanceMethod yX0_windAndSet, Cond.selects RX0 yX0_windAndSet yX0_windAndSet, Cond.code yX0_windAndSet cX0_windAndSet 2 none, Cond.methodLink RX0 48 yX0_isOffBeyond, Cond.instanceMethod yX0_isOffBeyond, Cond.selects RX0 yX0_isOffBeyond yX0_isOffBeyond, Cond.code yX0_isOffBeyond cX0_isOffBeyond 2 (some .boolean), Cond.methodLink RX0 37 Lib.Math.abs.name, Cond.methodLink RX0 52 yX0_turnByRule, Cond.instanceMethod yX0_turnByRule, Cond.selects RX0 yX0_turnByRule yX0_turnByRule, Cond.code yX0_turnByRule cX0_turnByRule 2 none, Cond.methodLink RX0 43 yX0_driftWithScrew, Cond.instanceMethod yX0_driftWithScrew, Cond.selects RX0 yX0_driftWithScrew yX0_driftWithScrew, Cond.code yX0_driftWithScrew cX0_driftWithScrew 1 (some .int)]
def wsX5_carryOut_r8 : List Cond := [Cond.methodLink RX5 78 yX4_passDays, Cond.instanceMethod yX4_passDays, Cond.selects RX4 yX4_passDays yX4_passDays, Cond.code yX4_passDays cX4_passDays 4 (some .int), Cond.methodLink RX4 69 yX0_passDay, Cond.instanceMethod yX0_passDay, Cond.selects RX0 yX0_passDay yX0_passDay, Cond.code yX0_passDay cX0_passDay 2 none, Cond.constant RX0 47 (43200), Cond.methodLink RX4 73 yX4_numberThatGo, Cond.instanceMethod yX4_numberThatGo, Cond.selects RX4 yX4_numberThatGo yX4_numberThatGo, Cond.code yX4_numberThatGo cX4_numberThatGo 3 (some .int), Cond.fieldLink RX4 77 "WinderLadders$Clock" "goes" "Z", Cond.methodLink RX5 81 yX4_changeClocks, Cond.instanceMethod yX4_changeClocks, Cond.selects RX4 yX4_changeClocks yX4_changeClocks, Cond.code yX4_changeClocks cX4_changeClocks 4 (some .int), Cond.fieldLink RX4 81 "WinderLadders$Clock" "off" "I", Cond.methodLink RX5 57 yX5_keptIfDone, Cond.instanceMethod yX5_keptIfDone, Cond.selects RX5 yX5_keptIfDone yX5_keptIfDone, Cond.code yX5_keptIfDone cX5_keptIfDone 2 (some .int), Cond.methodLink RX5 217 yX1_keepPrepared]
def wsX5_carryOut_r9 : List Cond := [Cond.instanceMethod yX1_keepPrepared, Cond.selects RX1 yX1_keepPrepared yX1_keepPrepared, Cond.code yX1_keepPrepared cX1_keepPrepared 1 none, Cond.methodLink RX1 26 yX1_dropOldest, Cond.instanceMethod yX1_dropOldest, Cond.selects RX1 yX1_dropOldest yX1_dropOldest, Cond.code yX1_dropOldest cX1_dropOldest 3 none]
def wsX5_carryOut : List Cond := .code yX5_carryOut cX5_carryOut 2 (some .int) :: ((wsX5_carryOut_r1 ++ (wsX5_carryOut_r2 ++ (wsX5_carryOut_r3 ++ (wsX5_carryOut_r4 ++ (wsX5_carryOut_r5 ++ (wsX5_carryOut_r6 ++ (wsX5_carryOut_r7 ++ (wsX5_carryOut_r8 ++ wsX5_carryOut_r9)))))))) ++ wsX50 ++ wsX20 ++ wsX30 ++ wsX10 ++ wsX40 ++ wsX00)
def wsX5_undo_r1 : List Cond := [Cond.fieldLink RX5 19 "WinderLadders" "history" "LWinderLadders$History;", Cond.fieldLink RX5 12 "WinderLadders" "now" "LWinderLadders$State;", Cond.fieldLink RX5 169 "WinderLadders$History" "depth" "I", Cond.methodLink RX5 210 yX1_takeBack, Cond.instanceMethod yX1_takeBack, Cond.selects RX1 yX1_takeBack yX1_takeBack, Cond.initialized RX1, Cond.code yX1_takeBack cX1_takeBack 2 (some .boolean), Cond.fieldLink RX1 18 "WinderLadders$History" "depth" "I", Cond.fieldLink RX1 11 "WinderLadders$History" "states" "[LWinderLadders$State;", Cond.methodLink RX1 22 yX4_copyFrom, Cond.instanceMethod yX4_copyFrom, Cond.selects RX4 yX4_copyFrom yX4_copyFrom, Cond.initialized RX4, Cond.code yX4_copyFrom cX4_copyFrom 3 none, Cond.fieldLink RX4 9 "WinderLadders$State" "settings" "[I", Cond.methodLink RX4 27 arraycopyName, Cond.native arraycopyName, Cond.static arraycopyName, Cond.initialized "java/lang/System", Cond.fieldLink RX4 21 "WinderLadders$State" "ladders" "[I", Cond.fieldLink RX4 34 "WinderLadders$State" "clockCount" "I", Cond.fieldLink RX4 17 "WinderLadders$State" "clocks" "[LWinderLadders$Clock;", Cond.fieldLink RX4 42 "WinderLadders$State" "ladderCount" "I"]
def wsX5_undo_r2 : List Cond := [Cond.fieldLink RX4 45 "WinderLadders$State" "days" "I", Cond.fieldLink RX4 48 "WinderLadders$State" "minutes" "I", Cond.methodLink RX4 38 yX0_copyFrom, Cond.instanceMethod yX0_copyFrom, Cond.selects RX0 yX0_copyFrom yX0_copyFrom, Cond.initialized RX0, Cond.code yX0_copyFrom cX0_copyFrom 2 none, Cond.fieldLink RX0 9 "WinderLadders$Clock" "house" "I", Cond.fieldLink RX0 15 "WinderLadders$Clock" "rungs" "I", Cond.fieldLink RX0 18 "WinderLadders$Clock" "drift" "I", Cond.fieldLink RX0 21 "WinderLadders$Clock" "screw" "I", Cond.fieldLink RX0 24 "WinderLadders$Clock" "off" "I", Cond.fieldLink RX0 27 "WinderLadders$Clock" "daysSinceWound" "I", Cond.fieldLink RX0 30 "WinderLadders$Clock" "timesWound" "I", Cond.fieldLink RX0 33 "WinderLadders$Clock" "goes" "Z"]
def wsX5_undo : List Cond := .code yX5_undo cX5_undo 1 (some .int) :: ((wsX5_undo_r1 ++ wsX5_undo_r2) ++ wsX50 ++ wsX10 ++ wsX40 ++ wsX00)
def wsX5_save_r1 : List Cond := [Cond.fieldLink RX5 23 "WinderLadders" "slots" "[LWinderLadders$State;", Cond.fieldLink RX5 12 "WinderLadders" "now" "LWinderLadders$State;", Cond.fieldLink RX5 27 "WinderLadders" "slotHolds" "[Z", Cond.fieldLink RX5 144 "WinderLadders$State" "clockCount" "I", Cond.methodLink RX5 214 yX4_copyFrom, Cond.instanceMethod yX4_copyFrom, Cond.selects RX4 yX4_copyFrom yX4_copyFrom, Cond.initialized RX4, Cond.code yX4_copyFrom cX4_copyFrom 3 none, Cond.fieldLink RX4 9 "WinderLadders$State" "settings" "[I", Cond.methodLink RX4 27 arraycopyName, Cond.native arraycopyName, Cond.static arraycopyName, Cond.initialized "java/lang/System", Cond.fieldLink RX4 21 "WinderLadders$State" "ladders" "[I", Cond.fieldLink RX4 34 "WinderLadders$State" "clockCount" "I", Cond.fieldLink RX4 17 "WinderLadders$State" "clocks" "[LWinderLadders$Clock;", Cond.fieldLink RX4 42 "WinderLadders$State" "ladderCount" "I", Cond.fieldLink RX4 45 "WinderLadders$State" "days" "I", Cond.fieldLink RX4 48 "WinderLadders$State" "minutes" "I", Cond.methodLink RX4 38 yX0_copyFrom, Cond.instanceMethod yX0_copyFrom, Cond.selects RX0 yX0_copyFrom yX0_copyFrom, Cond.initialized RX0]
def wsX5_save_r2 : List Cond := [Cond.code yX0_copyFrom cX0_copyFrom 2 none, Cond.fieldLink RX0 9 "WinderLadders$Clock" "house" "I", Cond.fieldLink RX0 15 "WinderLadders$Clock" "rungs" "I", Cond.fieldLink RX0 18 "WinderLadders$Clock" "drift" "I", Cond.fieldLink RX0 21 "WinderLadders$Clock" "screw" "I", Cond.fieldLink RX0 24 "WinderLadders$Clock" "off" "I", Cond.fieldLink RX0 27 "WinderLadders$Clock" "daysSinceWound" "I", Cond.fieldLink RX0 30 "WinderLadders$Clock" "timesWound" "I", Cond.fieldLink RX0 33 "WinderLadders$Clock" "goes" "Z"]
def wsX5_save : List Cond := .code yX5_save cX5_save 2 (some .int) :: ((wsX5_save_r1 ++ wsX5_save_r2) ++ wsX50 ++ wsX40 ++ wsX00)
def wsX5_restore_r1 : List Cond := [Cond.fieldLink RX5 27 "WinderLadders" "slotHolds" "[Z", Cond.fieldLink RX5 19 "WinderLadders" "history" "LWinderLadders$History;", Cond.fieldLink RX5 12 "WinderLadders" "now" "LWinderLadders$State;", Cond.fieldLink RX5 23 "WinderLadders" "slots" "[LWinderLadders$State;", Cond.fieldLink RX5 144 "WinderLadders$State" "clockCount" "I", Cond.methodLink RX5 49 yX1_prepare, Cond.instanceMethod yX1_prepare, Cond.selects RX1 yX1_prepare yX1_prepare, Cond.initialized RX1, Cond.code yX1_prepare cX1_prepare 2 none, Cond.fieldLink RX1 11 "WinderLadders$History" "states" "[LWinderLadders$State;", Cond.fieldLink RX1 18 "WinderLadders$History" "depth" "I", Cond.methodLink RX1 22 yX4_copyFrom, Cond.instanceMethod yX4_copyFrom, Cond.selects RX4 yX4_copyFrom yX4_copyFrom, Cond.initialized RX4, Cond.code yX4_copyFrom cX4_copyFrom 3 none, Cond.fieldLink RX4 9 "WinderLadders$State" "settings" "[I", Cond.methodLink RX4 27 arraycopyName, Cond.native arraycopyName, Cond.static arraycopyName, Cond.initialized "java/lang/System", Cond.fieldLink RX4 21 "WinderLadders$State" "ladders" "[I", Cond.fieldLink RX4 34 "WinderLadders$State" "clockCount" "I"]
def wsX5_restore_r2 : List Cond := [Cond.fieldLink RX4 17 "WinderLadders$State" "clocks" "[LWinderLadders$Clock;", Cond.fieldLink RX4 42 "WinderLadders$State" "ladderCount" "I", Cond.fieldLink RX4 45 "WinderLadders$State" "days" "I", Cond.fieldLink RX4 48 "WinderLadders$State" "minutes" "I", Cond.methodLink RX4 38 yX0_copyFrom, Cond.instanceMethod yX0_copyFrom, Cond.selects RX0 yX0_copyFrom yX0_copyFrom, Cond.initialized RX0, Cond.code yX0_copyFrom cX0_copyFrom 2 none, Cond.fieldLink RX0 9 "WinderLadders$Clock" "house" "I", Cond.fieldLink RX0 15 "WinderLadders$Clock" "rungs" "I", Cond.fieldLink RX0 18 "WinderLadders$Clock" "drift" "I", Cond.fieldLink RX0 21 "WinderLadders$Clock" "screw" "I", Cond.fieldLink RX0 24 "WinderLadders$Clock" "off" "I", Cond.fieldLink RX0 27 "WinderLadders$Clock" "daysSinceWound" "I", Cond.fieldLink RX0 30 "WinderLadders$Clock" "timesWound" "I", Cond.fieldLink RX0 33 "WinderLadders$Clock" "goes" "Z", Cond.methodLink RX5 214 yX4_copyFrom, Cond.methodLink RX5 57 yX5_keptIfDone, Cond.instanceMethod yX5_keptIfDone, Cond.selects RX5 yX5_keptIfDone yX5_keptIfDone, Cond.initialized RX5, Cond.code yX5_keptIfDone cX5_keptIfDone 2 (some .int), Cond.methodLink RX5 217 yX1_keepPrepared]
def wsX5_restore_r3 : List Cond := [Cond.instanceMethod yX1_keepPrepared, Cond.selects RX1 yX1_keepPrepared yX1_keepPrepared, Cond.code yX1_keepPrepared cX1_keepPrepared 1 none, Cond.methodLink RX1 26 yX1_dropOldest, Cond.instanceMethod yX1_dropOldest, Cond.selects RX1 yX1_dropOldest yX1_dropOldest, Cond.code yX1_dropOldest cX1_dropOldest 3 none]
def wsX5_restore : List Cond := .code yX5_restore cX5_restore 2 (some .int) :: ((wsX5_restore_r1 ++ (wsX5_restore_r2 ++ wsX5_restore_r3)) ++ wsX50 ++ wsX40 ++ wsX10 ++ wsX00)
def wsX6_init : List Cond := .code yX6_init cX6_init 1 none :: ([.methodLink RX6 1 objectInit, .instanceMethod objectInit, .code objectInit ⟨#[0xb1]⟩ 1 none, .arrayClass .int, .fieldLink RX6 7 "WinderLaddersModel" "s" "[I", .fieldLink RX6 13 "WinderLaddersModel" "aside" "[I", .fieldLink RX6 16 "WinderLaddersModel" "before" "[I", .fieldLink RX6 19 "WinderLaddersModel" "slots" "[I", .arrayClass .boolean, .fieldLink RX6 22 "WinderLaddersModel" "isSaved" "[Z", .fieldLink RX6 26 "WinderLaddersModel" "pad" "[I", .fieldLink RX6 29 "WinderLaddersModel" "row" "[I", .fieldLink RX6 32 "WinderLaddersModel" "last" "[I"] ++ wsX60)
def wsX6_in : List Cond := .code yX6_in cX6_in 3 (some .boolean) :: ([])
def wsX6_size : List Cond := .code yX6_size cX6_size 1 (some .int) :: ([])
def wsX6_at : List Cond := .code yX6_at cX6_at 2 (some .int) :: ([])
def wsX6_isClock : List Cond := .code yX6_isClock cX6_isClock 2 (some .boolean) :: ([.fieldLink RX6 7 "WinderLaddersModel" "s" "[I", .methodLink RX6 35 yX6_in, .static yX6_in, .initialized RX6, .code yX6_in cX6_in 3 (some .boolean)] ++ wsX60)
def wsX6_know : List Cond := .code yX6_know cX6_know 2 none :: ([.fieldLink RX6 39 "WinderLaddersModel" "known" "I", .fieldLink RX6 16 "WinderLaddersModel" "before" "[I", .fieldLink RX6 7 "WinderLaddersModel" "s" "[I"] ++ wsX60)
def wsX6_rate : List Cond := .code yX6_rate cX6_rate 2 (some .int) :: ([.fieldLink RX6 7 "WinderLaddersModel" "s" "[I", .methodLink RX6 43 yX6_at, .static yX6_at, .initialized RX6, .code yX6_at cX6_at 2 (some .int)] ++ wsX60)
def wsX6_isOff : List Cond := .code yX6_isOff cX6_isOff 2 (some .boolean) :: ([.fieldLink RX6 7 "WinderLaddersModel" "s" "[I", .methodLink RX6 43 yX6_at, .static yX6_at, .initialized RX6, .code yX6_at cX6_at 2 (some .int), .methodLink RX6 47 yX6_size, .static yX6_size, .code yX6_size cX6_size 1 (some .int)] ++ wsX60)
def wsX6_ladderOf : List Cond := .code yX6_ladderOf cX6_ladderOf 5 (some .int) :: ([.fieldLink RX6 7 "WinderLaddersModel" "s" "[I", .methodLink RX6 43 yX6_at, .static yX6_at, .initialized RX6, .code yX6_at cX6_at 2 (some .int)] ++ wsX60)
def wsX6_canWind : List Cond := .code yX6_canWind cX6_canWind 2 (some .boolean) :: ([.fieldLink RX6 7 "WinderLaddersModel" "s" "[I", .methodLink RX6 43 yX6_at, .static yX6_at, .initialized RX6, .code yX6_at cX6_at 2 (some .int), .methodLink RX6 51 yX6_ladderOf, .instanceMethod yX6_ladderOf, .selects RX6 yX6_ladderOf yX6_ladderOf, .code yX6_ladderOf cX6_ladderOf 5 (some .int)] ++ wsX60)
def wsX6_day : List Cond := .code yX6_day cX6_day 2 none :: ([.fieldLink RX6 7 "WinderLaddersModel" "s" "[I", .constant RX6 57 (43200), .methodLink RX6 43 yX6_at, .static yX6_at, .initialized RX6, .code yX6_at cX6_at 2 (some .int), .methodLink RX6 54 yX6_rate, .instanceMethod yX6_rate, .selects RX6 yX6_rate yX6_rate, .code yX6_rate cX6_rate 2 (some .int)] ++ wsX60)
def wsX6_way : List Cond := .code yX6_way cX6_way 3 (some .int) :: ([.fieldLink RX6 7 "WinderLaddersModel" "s" "[I", .methodLink RX6 47 yX6_size, .static yX6_size, .initialized RX6, .code yX6_size cX6_size 1 (some .int)] ++ wsX60)
def wsX6_minutes : List Cond := .code yX6_minutes cX6_minutes 8 (some .int) :: ([.fieldLink RX6 58 "WinderLaddersModel" "inRow" "I", .fieldLink RX6 29 "WinderLaddersModel" "row" "[I", .fieldLink RX6 7 "WinderLaddersModel" "s" "[I", .methodLink RX6 51 yX6_ladderOf, .instanceMethod yX6_ladderOf, .selects RX6 yX6_ladderOf yX6_ladderOf, .initialized RX6, .code yX6_ladderOf cX6_ladderOf 5 (some .int), .methodLink RX6 43 yX6_at, .static yX6_at, .code yX6_at cX6_at 2 (some .int), .methodLink RX6 61 yX6_way, .instanceMethod yX6_way, .selects RX6 yX6_way yX6_way, .code yX6_way cX6_way 3 (some .int), .methodLink RX6 47 yX6_size, .static yX6_size, .code yX6_size cX6_size 1 (some .int), .methodLink RX6 64 yX6_canWind, .instanceMethod yX6_canWind, .selects RX6 yX6_canWind yX6_canWind, .code yX6_canWind cX6_canWind 2 (some .boolean)] ++ wsX60)
def wsX6_work : List Cond := .code yX6_work cX6_work 4 none :: ([.fieldLink RX6 7 "WinderLaddersModel" "s" "[I", .methodLink RX6 54 yX6_rate, .instanceMethod yX6_rate, .selects RX6 yX6_rate yX6_rate, .initialized RX6, .code yX6_rate cX6_rate 2 (some .int), .methodLink RX6 43 yX6_at, .static yX6_at, .code yX6_at cX6_at 2 (some .int), .methodLink RX6 47 yX6_size, .static yX6_size, .code yX6_size cX6_size 1 (some .int), .methodLink RX6 35 yX6_in, .static yX6_in, .code yX6_in cX6_in 3 (some .boolean)] ++ wsX60)
def wsX6_goes_r1 : List Cond := [Cond.fieldLink RX6 58 "WinderLaddersModel" "inRow" "I", Cond.fieldLink RX6 29 "WinderLaddersModel" "row" "[I", Cond.fieldLink RX6 7 "WinderLaddersModel" "s" "[I", Cond.methodLink RX6 68 yX6_minutes, Cond.instanceMethod yX6_minutes, Cond.selects RX6 yX6_minutes yX6_minutes, Cond.initialized RX6, Cond.code yX6_minutes cX6_minutes 8 (some .int), Cond.methodLink RX6 51 yX6_ladderOf, Cond.instanceMethod yX6_ladderOf, Cond.selects RX6 yX6_ladderOf yX6_ladderOf, Cond.code yX6_ladderOf cX6_ladderOf 5 (some .int), Cond.methodLink RX6 43 yX6_at, Cond.static yX6_at, Cond.code yX6_at cX6_at 2 (some .int), Cond.methodLink RX6 61 yX6_way, Cond.instanceMethod yX6_way, Cond.selects RX6 yX6_way yX6_way, Cond.code yX6_way cX6_way 3 (some .int), Cond.methodLink RX6 47 yX6_size, Cond.static yX6_size, Cond.code yX6_size cX6_size 1 (some .int), Cond.methodLink RX6 64 yX6_canWind, Cond.instanceMethod yX6_canWind]
def wsX6_goes_r2 : List Cond := [Cond.selects RX6 yX6_canWind yX6_canWind, Cond.code yX6_canWind cX6_canWind 2 (some .boolean), Cond.methodLink RX6 72 yX6_work, Cond.instanceMethod yX6_work, Cond.selects RX6 yX6_work yX6_work, Cond.code yX6_work cX6_work 4 none, Cond.methodLink RX6 54 yX6_rate, Cond.instanceMethod yX6_rate, Cond.selects RX6 yX6_rate yX6_rate, Cond.code yX6_rate cX6_rate 2 (some .int), Cond.methodLink RX6 35 yX6_in, Cond.static yX6_in, Cond.code yX6_in cX6_in 3 (some .boolean)]
def wsX6_goes : List Cond := .code yX6_goes cX6_goes 3 (some .int) :: ((wsX6_goes_r1 ++ wsX6_goes_r2) ++ wsX60)
def wsX6_layOut : List Cond := .code yX6_layOut cX6_layOut 5 (some .int) :: ([.fieldLink RX6 58 "WinderLaddersModel" "inRow" "I", .fieldLink RX6 7 "WinderLaddersModel" "s" "[I", .fieldLink RX6 29 "WinderLaddersModel" "row" "[I"] ++ wsX60)
def wsX6_hangFault : List Cond := .code yX6_hangFault cX6_hangFault 4 (some .int) :: ([.fieldLink RX6 7 "WinderLaddersModel" "s" "[I", .methodLink RX6 35 yX6_in, .static yX6_in, .initialized RX6, .code yX6_in cX6_in 3 (some .boolean)] ++ wsX60)
def wsX6_hangs : List Cond := .code yX6_hangs cX6_hangs 6 (some .int) :: ([.fieldLink RX6 7 "WinderLaddersModel" "s" "[I", .methodLink RX6 43 yX6_at, .static yX6_at, .initialized RX6, .code yX6_at cX6_at 2 (some .int)] ++ wsX60)
def wsX6_ladderFault : List Cond := .code yX6_ladderFault cX6_ladderFault 2 (some .int) :: ([.fieldLink RX6 7 "WinderLaddersModel" "s" "[I", .methodLink RX6 35 yX6_in, .static yX6_in, .initialized RX6, .code yX6_in cX6_in 3 (some .boolean)] ++ wsX60)
def wsX6_buys : List Cond := .code yX6_buys cX6_buys 2 (some .int) :: ([.fieldLink RX6 7 "WinderLaddersModel" "s" "[I"] ++ wsX60)
def wsX6_passFault : List Cond := .code yX6_passFault cX6_passFault 2 (some .int) :: ([.fieldLink RX6 7 "WinderLaddersModel" "s" "[I", .methodLink RX6 35 yX6_in, .static yX6_in, .initialized RX6, .code yX6_in cX6_in 3 (some .boolean)] ++ wsX60)
def wsX6_still : List Cond := .code yX6_still cX6_still 3 (some .int) :: ([.fieldLink RX6 7 "WinderLaddersModel" "s" "[I", .methodLink RX6 43 yX6_at, .static yX6_at, .initialized RX6, .code yX6_at cX6_at 2 (some .int)] ++ wsX60)
def wsX6_many : List Cond := .code yX6_many cX6_many 3 (some .int) :: ([])
def wsX6_passes : List Cond := .code yX6_passes cX6_passes 4 (some .int) :: ([.fieldLink RX6 7 "WinderLaddersModel" "s" "[I", .methodLink RX6 76 yX6_day, .instanceMethod yX6_day, .selects RX6 yX6_day yX6_day, .initialized RX6, .code yX6_day cX6_day 2 none, .constant RX6 57 (43200), .methodLink RX6 43 yX6_at, .static yX6_at, .code yX6_at cX6_at 2 (some .int), .methodLink RX6 54 yX6_rate, .instanceMethod yX6_rate, .selects RX6 yX6_rate yX6_rate, .code yX6_rate cX6_rate 2 (some .int), .methodLink RX6 79 yX6_still, .instanceMethod yX6_still, .selects RX6 yX6_still yX6_still, .code yX6_still cX6_still 3 (some .int), .methodLink RX6 82 yX6_many, .static yX6_many, .code yX6_many cX6_many 3 (some .int)] ++ wsX60)
def wsX6_changes : List Cond := .code yX6_changes cX6_changes 3 (some .int) :: ([.fieldLink RX6 7 "WinderLaddersModel" "s" "[I", .methodLink RX6 43 yX6_at, .static yX6_at, .initialized RX6, .code yX6_at cX6_at 2 (some .int), .methodLink RX6 79 yX6_still, .instanceMethod yX6_still, .selects RX6 yX6_still yX6_still, .code yX6_still cX6_still 3 (some .int), .methodLink RX6 82 yX6_many, .static yX6_many, .code yX6_many cX6_many 3 (some .int)] ++ wsX60)
def wsX6_set : List Cond := .code yX6_set cX6_set 5 (some .int) :: ([.fieldLink RX6 7 "WinderLaddersModel" "s" "[I", .methodLink RX6 35 yX6_in, .static yX6_in, .initialized RX6, .code yX6_in cX6_in 3 (some .boolean), .methodLink RX6 85 yX6_know, .instanceMethod yX6_know, .selects RX6 yX6_know yX6_know, .code yX6_know cX6_know 2 none, .fieldLink RX6 39 "WinderLaddersModel" "known" "I", .fieldLink RX6 16 "WinderLaddersModel" "before" "[I"] ++ wsX60)
def wsX6_hang : List Cond := .code yX6_hang cX6_hang 5 (some .int) :: ([.methodLink RX6 88 yX6_hangFault, .instanceMethod yX6_hangFault, .selects RX6 yX6_hangFault yX6_hangFault, .initialized RX6, .code yX6_hangFault cX6_hangFault 4 (some .int), .fieldLink RX6 7 "WinderLaddersModel" "s" "[I", .methodLink RX6 35 yX6_in, .static yX6_in, .code yX6_in cX6_in 3 (some .boolean), .methodLink RX6 85 yX6_know, .instanceMethod yX6_know, .selects RX6 yX6_know yX6_know, .code yX6_know cX6_know 2 none, .fieldLink RX6 39 "WinderLaddersModel" "known" "I", .fieldLink RX6 16 "WinderLaddersModel" "before" "[I", .methodLink RX6 92 yX6_hangs, .instanceMethod yX6_hangs, .selects RX6 yX6_hangs yX6_hangs, .code yX6_hangs cX6_hangs 6 (some .int), .methodLink RX6 43 yX6_at, .static yX6_at, .code yX6_at cX6_at 2 (some .int)] ++ wsX60)
def wsX6_ladder : List Cond := .code yX6_ladder cX6_ladder 3 (some .int) :: ([.methodLink RX6 95 yX6_ladderFault, .instanceMethod yX6_ladderFault, .selects RX6 yX6_ladderFault yX6_ladderFault, .initialized RX6, .code yX6_ladderFault cX6_ladderFault 2 (some .int), .fieldLink RX6 7 "WinderLaddersModel" "s" "[I", .methodLink RX6 35 yX6_in, .static yX6_in, .code yX6_in cX6_in 3 (some .boolean), .methodLink RX6 85 yX6_know, .instanceMethod yX6_know, .selects RX6 yX6_know yX6_know, .code yX6_know cX6_know 2 none, .fieldLink RX6 39 "WinderLaddersModel" "known" "I", .fieldLink RX6 16 "WinderLaddersModel" "before" "[I", .methodLink RX6 98 yX6_buys, .instanceMethod yX6_buys, .selects RX6 yX6_buys yX6_buys, .code yX6_buys cX6_buys 2 (some .int)] ++ wsX60)
def wsX6_screw : List Cond := .code yX6_screw cX6_screw 4 (some .int) :: ([.fieldLink RX6 7 "WinderLaddersModel" "s" "[I", .methodLink RX6 101 yX6_isClock, .instanceMethod yX6_isClock, .selects RX6 yX6_isClock yX6_isClock, .initialized RX6, .code yX6_isClock cX6_isClock 2 (some .boolean), .methodLink RX6 35 yX6_in, .static yX6_in, .code yX6_in cX6_in 3 (some .boolean), .methodLink RX6 43 yX6_at, .static yX6_at, .code yX6_at cX6_at 2 (some .int), .methodLink RX6 85 yX6_know, .instanceMethod yX6_know, .selects RX6 yX6_know yX6_know, .code yX6_know cX6_know 2 none, .fieldLink RX6 39 "WinderLaddersModel" "known" "I", .fieldLink RX6 16 "WinderLaddersModel" "before" "[I"] ++ wsX60)
def wsX6_round_r1 : List Cond := [Cond.methodLink RX6 104 yX6_layOut, Cond.instanceMethod yX6_layOut, Cond.selects RX6 yX6_layOut yX6_layOut, Cond.initialized RX6, Cond.code yX6_layOut cX6_layOut 5 (some .int), Cond.fieldLink RX6 58 "WinderLaddersModel" "inRow" "I", Cond.fieldLink RX6 7 "WinderLaddersModel" "s" "[I", Cond.fieldLink RX6 29 "WinderLaddersModel" "row" "[I", Cond.methodLink RX6 85 yX6_know, Cond.instanceMethod yX6_know, Cond.selects RX6 yX6_know yX6_know, Cond.code yX6_know cX6_know 2 none, Cond.fieldLink RX6 39 "WinderLaddersModel" "known" "I", Cond.fieldLink RX6 16 "WinderLaddersModel" "before" "[I", Cond.methodLink RX6 108 yX6_goes, Cond.instanceMethod yX6_goes, Cond.selects RX6 yX6_goes yX6_goes, Cond.code yX6_goes cX6_goes 3 (some .int), Cond.methodLink RX6 68 yX6_minutes, Cond.instanceMethod yX6_minutes, Cond.selects RX6 yX6_minutes yX6_minutes, Cond.code yX6_minutes cX6_minutes 8 (some .int), Cond.methodLink RX6 51 yX6_ladderOf, Cond.instanceMethod yX6_ladderOf]
def wsX6_round_r2 : List Cond := [Cond.selects RX6 yX6_ladderOf yX6_ladderOf, Cond.code yX6_ladderOf cX6_ladderOf 5 (some .int), Cond.methodLink RX6 43 yX6_at, Cond.static yX6_at, Cond.code yX6_at cX6_at 2 (some .int), Cond.methodLink RX6 61 yX6_way, Cond.instanceMethod yX6_way, Cond.selects RX6 yX6_way yX6_way, Cond.code yX6_way cX6_way 3 (some .int), Cond.methodLink RX6 47 yX6_size, Cond.static yX6_size, Cond.code yX6_size cX6_size 1 (some .int), Cond.methodLink RX6 64 yX6_canWind, Cond.instanceMethod yX6_canWind, Cond.selects RX6 yX6_canWind yX6_canWind, Cond.code yX6_canWind cX6_canWind 2 (some .boolean), Cond.methodLink RX6 72 yX6_work, Cond.instanceMethod yX6_work, Cond.selects RX6 yX6_work yX6_work, Cond.code yX6_work cX6_work 4 none, Cond.methodLink RX6 54 yX6_rate, Cond.instanceMethod yX6_rate, Cond.selects RX6 yX6_rate yX6_rate, Cond.code yX6_rate cX6_rate 2 (some .int)]
def wsX6_round_r3 : List Cond := [Cond.methodLink RX6 35 yX6_in, Cond.static yX6_in, Cond.code yX6_in cX6_in 3 (some .boolean)]
def wsX6_round : List Cond := .code yX6_round cX6_round 3 (some .int) :: ((wsX6_round_r1 ++ (wsX6_round_r2 ++ wsX6_round_r3)) ++ wsX60)
def wsX6_pass_r1 : List Cond := [Cond.methodLink RX6 111 yX6_passFault, Cond.instanceMethod yX6_passFault, Cond.selects RX6 yX6_passFault yX6_passFault, Cond.initialized RX6, Cond.code yX6_passFault cX6_passFault 2 (some .int), Cond.fieldLink RX6 7 "WinderLaddersModel" "s" "[I", Cond.methodLink RX6 35 yX6_in, Cond.static yX6_in, Cond.code yX6_in cX6_in 3 (some .boolean), Cond.methodLink RX6 85 yX6_know, Cond.instanceMethod yX6_know, Cond.selects RX6 yX6_know yX6_know, Cond.code yX6_know cX6_know 2 none, Cond.fieldLink RX6 39 "WinderLaddersModel" "known" "I", Cond.fieldLink RX6 16 "WinderLaddersModel" "before" "[I", Cond.methodLink RX6 114 yX6_passes, Cond.instanceMethod yX6_passes, Cond.selects RX6 yX6_passes yX6_passes, Cond.code yX6_passes cX6_passes 4 (some .int), Cond.methodLink RX6 76 yX6_day, Cond.instanceMethod yX6_day, Cond.selects RX6 yX6_day yX6_day, Cond.code yX6_day cX6_day 2 none, Cond.constant RX6 57 (43200)]
def wsX6_pass_r2 : List Cond := [Cond.methodLink RX6 43 yX6_at, Cond.static yX6_at, Cond.code yX6_at cX6_at 2 (some .int), Cond.methodLink RX6 54 yX6_rate, Cond.instanceMethod yX6_rate, Cond.selects RX6 yX6_rate yX6_rate, Cond.code yX6_rate cX6_rate 2 (some .int), Cond.methodLink RX6 79 yX6_still, Cond.instanceMethod yX6_still, Cond.selects RX6 yX6_still yX6_still, Cond.code yX6_still cX6_still 3 (some .int), Cond.methodLink RX6 82 yX6_many, Cond.static yX6_many, Cond.code yX6_many cX6_many 3 (some .int)]
def wsX6_pass : List Cond := .code yX6_pass cX6_pass 3 (some .int) :: ((wsX6_pass_r1 ++ wsX6_pass_r2) ++ wsX60)
def wsX6_change_r1 : List Cond := [Cond.methodLink RX6 35 yX6_in, Cond.static yX6_in, Cond.initialized RX6, Cond.code yX6_in cX6_in 3 (some .boolean), Cond.methodLink RX6 85 yX6_know, Cond.instanceMethod yX6_know, Cond.selects RX6 yX6_know yX6_know, Cond.code yX6_know cX6_know 2 none, Cond.fieldLink RX6 39 "WinderLaddersModel" "known" "I", Cond.fieldLink RX6 16 "WinderLaddersModel" "before" "[I", Cond.fieldLink RX6 7 "WinderLaddersModel" "s" "[I", Cond.methodLink RX6 117 yX6_changes, Cond.instanceMethod yX6_changes, Cond.selects RX6 yX6_changes yX6_changes, Cond.code yX6_changes cX6_changes 3 (some .int), Cond.methodLink RX6 43 yX6_at, Cond.static yX6_at, Cond.code yX6_at cX6_at 2 (some .int), Cond.methodLink RX6 79 yX6_still, Cond.instanceMethod yX6_still, Cond.selects RX6 yX6_still yX6_still, Cond.code yX6_still cX6_still 3 (some .int), Cond.methodLink RX6 82 yX6_many, Cond.static yX6_many]
def wsX6_change_r2 : List Cond := [Cond.code yX6_many cX6_many 3 (some .int)]
def wsX6_change : List Cond := .code yX6_change cX6_change 2 (some .int) :: ((wsX6_change_r1 ++ wsX6_change_r2) ++ wsX60)
def wsX6_of_r1 : List Cond := [Cond.fieldLink RX6 7 "WinderLaddersModel" "s" "[I", Cond.constant RX6 120 (1000000000), Cond.methodLink RX6 101 yX6_isClock, Cond.instanceMethod yX6_isClock, Cond.selects RX6 yX6_isClock yX6_isClock, Cond.initialized RX6, Cond.code yX6_isClock cX6_isClock 2 (some .boolean), Cond.methodLink RX6 35 yX6_in, Cond.static yX6_in, Cond.code yX6_in cX6_in 3 (some .boolean), Cond.methodLink RX6 43 yX6_at, Cond.static yX6_at, Cond.code yX6_at cX6_at 2 (some .int), Cond.methodLink RX6 121 yX6_isOff, Cond.instanceMethod yX6_isOff, Cond.selects RX6 yX6_isOff yX6_isOff, Cond.code yX6_isOff cX6_isOff 2 (some .boolean), Cond.methodLink RX6 47 yX6_size, Cond.static yX6_size, Cond.code yX6_size cX6_size 1 (some .int), Cond.methodLink RX6 51 yX6_ladderOf, Cond.instanceMethod yX6_ladderOf, Cond.selects RX6 yX6_ladderOf yX6_ladderOf, Cond.code yX6_ladderOf cX6_ladderOf 5 (some .int)]
def wsX6_of_r2 : List Cond := [Cond.methodLink RX6 64 yX6_canWind, Cond.instanceMethod yX6_canWind, Cond.selects RX6 yX6_canWind yX6_canWind, Cond.code yX6_canWind cX6_canWind 2 (some .boolean)]
def wsX6_of : List Cond := .code yX6_of cX6_of 3 (some .int) :: ((wsX6_of_r1 ++ wsX6_of_r2) ++ wsX60)
def wsX6_ofLadder : List Cond := .code yX6_ofLadder cX6_ofLadder 2 (some .int) :: ([.fieldLink RX6 7 "WinderLaddersModel" "s" "[I", .methodLink RX6 35 yX6_in, .static yX6_in, .initialized RX6, .code yX6_in cX6_in 3 (some .boolean)] ++ wsX60)
def wsX6_sum : List Cond := .code yX6_sum cX6_sum 4 (some .int) :: ([.fieldLink RX6 7 "WinderLaddersModel" "s" "[I", .methodLink RX6 43 yX6_at, .static yX6_at, .initialized RX6, .code yX6_at cX6_at 2 (some .int), .methodLink RX6 121 yX6_isOff, .instanceMethod yX6_isOff, .selects RX6 yX6_isOff yX6_isOff, .code yX6_isOff cX6_isOff 2 (some .boolean), .methodLink RX6 47 yX6_size, .static yX6_size, .code yX6_size cX6_size 1 (some .int), .methodLink RX6 64 yX6_canWind, .instanceMethod yX6_canWind, .selects RX6 yX6_canWind yX6_canWind, .code yX6_canWind cX6_canWind 2 (some .boolean), .methodLink RX6 51 yX6_ladderOf, .instanceMethod yX6_ladderOf, .selects RX6 yX6_ladderOf yX6_ladderOf, .code yX6_ladderOf cX6_ladderOf 5 (some .int)] ++ wsX60)
def wsX6_count_r1 : List Cond := [Cond.fieldLink RX6 7 "WinderLaddersModel" "s" "[I", Cond.fieldLink RX6 127 "WinderLaddersModel" "length" "I", Cond.fieldLink RX6 39 "WinderLaddersModel" "known" "I", Cond.methodLink RX6 79 yX6_still, Cond.instanceMethod yX6_still, Cond.selects RX6 yX6_still yX6_still, Cond.initialized RX6, Cond.code yX6_still cX6_still 3 (some .int), Cond.methodLink RX6 43 yX6_at, Cond.static yX6_at, Cond.code yX6_at cX6_at 2 (some .int), Cond.methodLink RX6 124 yX6_sum, Cond.instanceMethod yX6_sum, Cond.selects RX6 yX6_sum yX6_sum, Cond.code yX6_sum cX6_sum 4 (some .int), Cond.methodLink RX6 121 yX6_isOff, Cond.instanceMethod yX6_isOff, Cond.selects RX6 yX6_isOff yX6_isOff, Cond.code yX6_isOff cX6_isOff 2 (some .boolean), Cond.methodLink RX6 47 yX6_size, Cond.static yX6_size, Cond.code yX6_size cX6_size 1 (some .int), Cond.methodLink RX6 64 yX6_canWind, Cond.instanceMethod yX6_canWind]
def wsX6_count_r2 : List Cond := [Cond.selects RX6 yX6_canWind yX6_canWind, Cond.code yX6_canWind cX6_canWind 2 (some .boolean), Cond.methodLink RX6 51 yX6_ladderOf, Cond.instanceMethod yX6_ladderOf, Cond.selects RX6 yX6_ladderOf yX6_ladderOf, Cond.code yX6_ladderOf cX6_ladderOf 5 (some .int)]
def wsX6_count : List Cond := .code yX6_count cX6_count 2 (some .int) :: ((wsX6_count_r1 ++ wsX6_count_r2) ++ wsX60)
def wsX6_takes_r1 : List Cond := [Cond.methodLink RX6 104 yX6_layOut, Cond.instanceMethod yX6_layOut, Cond.selects RX6 yX6_layOut yX6_layOut, Cond.initialized RX6, Cond.code yX6_layOut cX6_layOut 5 (some .int), Cond.fieldLink RX6 58 "WinderLaddersModel" "inRow" "I", Cond.fieldLink RX6 7 "WinderLaddersModel" "s" "[I", Cond.fieldLink RX6 29 "WinderLaddersModel" "row" "[I", Cond.methodLink RX6 68 yX6_minutes, Cond.instanceMethod yX6_minutes, Cond.selects RX6 yX6_minutes yX6_minutes, Cond.code yX6_minutes cX6_minutes 8 (some .int), Cond.methodLink RX6 51 yX6_ladderOf, Cond.instanceMethod yX6_ladderOf, Cond.selects RX6 yX6_ladderOf yX6_ladderOf, Cond.code yX6_ladderOf cX6_ladderOf 5 (some .int), Cond.methodLink RX6 43 yX6_at, Cond.static yX6_at, Cond.code yX6_at cX6_at 2 (some .int), Cond.methodLink RX6 61 yX6_way, Cond.instanceMethod yX6_way, Cond.selects RX6 yX6_way yX6_way, Cond.code yX6_way cX6_way 3 (some .int), Cond.methodLink RX6 47 yX6_size]
def wsX6_takes_r2 : List Cond := [Cond.static yX6_size, Cond.code yX6_size cX6_size 1 (some .int), Cond.methodLink RX6 64 yX6_canWind, Cond.instanceMethod yX6_canWind, Cond.selects RX6 yX6_canWind yX6_canWind, Cond.code yX6_canWind cX6_canWind 2 (some .boolean)]
def wsX6_takes : List Cond := .code yX6_takes cX6_takes 3 (some .int) :: ((wsX6_takes_r1 ++ wsX6_takes_r2) ++ wsX60)
def wsX6_keepClock : List Cond := .code yX6_keepClock cX6_keepClock 3 none :: ([.fieldLink RX6 13 "WinderLaddersModel" "aside" "[I", .fieldLink RX6 7 "WinderLaddersModel" "s" "[I", .methodLink RX6 43 yX6_at, .static yX6_at, .initialized RX6, .code yX6_at cX6_at 2 (some .int)] ++ wsX60)
def wsX6_lasts_r1 : List Cond := [Cond.fieldLink RX6 7 "WinderLaddersModel" "s" "[I", Cond.fieldLink RX6 13 "WinderLaddersModel" "aside" "[I", Cond.methodLink RX6 101 yX6_isClock, Cond.instanceMethod yX6_isClock, Cond.selects RX6 yX6_isClock yX6_isClock, Cond.initialized RX6, Cond.code yX6_isClock cX6_isClock 2 (some .boolean), Cond.methodLink RX6 35 yX6_in, Cond.static yX6_in, Cond.code yX6_in cX6_in 3 (some .boolean), Cond.methodLink RX6 130 yX6_keepClock, Cond.instanceMethod yX6_keepClock, Cond.selects RX6 yX6_keepClock yX6_keepClock, Cond.code yX6_keepClock cX6_keepClock 3 none, Cond.methodLink RX6 43 yX6_at, Cond.static yX6_at, Cond.code yX6_at cX6_at 2 (some .int), Cond.methodLink RX6 121 yX6_isOff, Cond.instanceMethod yX6_isOff, Cond.selects RX6 yX6_isOff yX6_isOff, Cond.code yX6_isOff cX6_isOff 2 (some .boolean), Cond.methodLink RX6 47 yX6_size, Cond.static yX6_size, Cond.code yX6_size cX6_size 1 (some .int)]
def wsX6_lasts_r2 : List Cond := [Cond.methodLink RX6 76 yX6_day, Cond.instanceMethod yX6_day, Cond.selects RX6 yX6_day yX6_day, Cond.code yX6_day cX6_day 2 none, Cond.constant RX6 57 (43200), Cond.methodLink RX6 54 yX6_rate, Cond.instanceMethod yX6_rate, Cond.selects RX6 yX6_rate yX6_rate, Cond.code yX6_rate cX6_rate 2 (some .int)]
def wsX6_lasts : List Cond := .code yX6_lasts cX6_lasts 4 (some .int) :: ((wsX6_lasts_r1 ++ wsX6_lasts_r2) ++ wsX60)
def wsX6_needs_r1 : List Cond := [Cond.fieldLink RX6 7 "WinderLaddersModel" "s" "[I", Cond.fieldLink RX6 32 "WinderLaddersModel" "last" "[I", Cond.methodLink RX6 133 yX6_lasts, Cond.instanceMethod yX6_lasts, Cond.selects RX6 yX6_lasts yX6_lasts, Cond.initialized RX6, Cond.code yX6_lasts cX6_lasts 4 (some .int), Cond.fieldLink RX6 13 "WinderLaddersModel" "aside" "[I", Cond.methodLink RX6 101 yX6_isClock, Cond.instanceMethod yX6_isClock, Cond.selects RX6 yX6_isClock yX6_isClock, Cond.code yX6_isClock cX6_isClock 2 (some .boolean), Cond.methodLink RX6 35 yX6_in, Cond.static yX6_in, Cond.code yX6_in cX6_in 3 (some .boolean), Cond.methodLink RX6 130 yX6_keepClock, Cond.instanceMethod yX6_keepClock, Cond.selects RX6 yX6_keepClock yX6_keepClock, Cond.code yX6_keepClock cX6_keepClock 3 none, Cond.methodLink RX6 43 yX6_at, Cond.static yX6_at, Cond.code yX6_at cX6_at 2 (some .int), Cond.methodLink RX6 121 yX6_isOff, Cond.instanceMethod yX6_isOff]
def wsX6_needs_r2 : List Cond := [Cond.selects RX6 yX6_isOff yX6_isOff, Cond.code yX6_isOff cX6_isOff 2 (some .boolean), Cond.methodLink RX6 47 yX6_size, Cond.static yX6_size, Cond.code yX6_size cX6_size 1 (some .int), Cond.methodLink RX6 76 yX6_day, Cond.instanceMethod yX6_day, Cond.selects RX6 yX6_day yX6_day, Cond.code yX6_day cX6_day 2 none, Cond.constant RX6 57 (43200), Cond.methodLink RX6 54 yX6_rate, Cond.instanceMethod yX6_rate, Cond.selects RX6 yX6_rate yX6_rate, Cond.code yX6_rate cX6_rate 2 (some .int)]
def wsX6_needs : List Cond := .code yX6_needs cX6_needs 5 (some .int) :: ((wsX6_needs_r1 ++ wsX6_needs_r2) ++ wsX60)
def wsX6_ladderFor : List Cond := .code yX6_ladderFor cX6_ladderFor 3 (some .int) :: ([.fieldLink RX6 7 "WinderLaddersModel" "s" "[I", .methodLink RX6 64 yX6_canWind, .instanceMethod yX6_canWind, .selects RX6 yX6_canWind yX6_canWind, .initialized RX6, .code yX6_canWind cX6_canWind 2 (some .boolean), .methodLink RX6 43 yX6_at, .static yX6_at, .code yX6_at cX6_at 2 (some .int), .methodLink RX6 51 yX6_ladderOf, .instanceMethod yX6_ladderOf, .selects RX6 yX6_ladderOf yX6_ladderOf, .code yX6_ladderOf cX6_ladderOf 5 (some .int)] ++ wsX60)
def wsX6_wayRound_r1 : List Cond := [Cond.methodLink RX6 104 yX6_layOut, Cond.instanceMethod yX6_layOut, Cond.selects RX6 yX6_layOut yX6_layOut, Cond.initialized RX6, Cond.code yX6_layOut cX6_layOut 5 (some .int), Cond.fieldLink RX6 58 "WinderLaddersModel" "inRow" "I", Cond.fieldLink RX6 7 "WinderLaddersModel" "s" "[I", Cond.fieldLink RX6 29 "WinderLaddersModel" "row" "[I", Cond.methodLink RX6 68 yX6_minutes, Cond.instanceMethod yX6_minutes, Cond.selects RX6 yX6_minutes yX6_minutes, Cond.code yX6_minutes cX6_minutes 8 (some .int), Cond.methodLink RX6 51 yX6_ladderOf, Cond.instanceMethod yX6_ladderOf, Cond.selects RX6 yX6_ladderOf yX6_ladderOf, Cond.code yX6_ladderOf cX6_ladderOf 5 (some .int), Cond.methodLink RX6 43 yX6_at, Cond.static yX6_at, Cond.code yX6_at cX6_at 2 (some .int), Cond.methodLink RX6 61 yX6_way, Cond.instanceMethod yX6_way, Cond.selects RX6 yX6_way yX6_way, Cond.code yX6_way cX6_way 3 (some .int), Cond.methodLink RX6 47 yX6_size]
def wsX6_wayRound_r2 : List Cond := [Cond.static yX6_size, Cond.code yX6_size cX6_size 1 (some .int), Cond.methodLink RX6 64 yX6_canWind, Cond.instanceMethod yX6_canWind, Cond.selects RX6 yX6_canWind yX6_canWind, Cond.code yX6_canWind cX6_canWind 2 (some .boolean)]
def wsX6_wayRound : List Cond := .code yX6_wayRound cX6_wayRound 6 (some .int) :: ((wsX6_wayRound_r1 ++ wsX6_wayRound_r2) ++ wsX60)
def wsX6_put : List Cond := .code yX6_put cX6_put 8 (some .int) :: ([.constantLong RX6 136 (255), .fieldLink RX6 127 "WinderLaddersModel" "length" "I", .fieldLink RX6 26 "WinderLaddersModel" "pad" "[I", .methodLink RX6 35 yX6_in, .static yX6_in, .initialized RX6, .code yX6_in cX6_in 3 (some .boolean)] ++ wsX60)
def wsX6_wipe : List Cond := .code yX6_wipe cX6_wipe 2 (some .int) :: ([.fieldLink RX6 127 "WinderLaddersModel" "length" "I"] ++ wsX60)
def wsX6_sign : List Cond := .code yX6_sign cX6_sign 4 (some .int) :: ([.fieldLink RX6 138 "WinderLaddersModel" "place" "I", .fieldLink RX6 127 "WinderLaddersModel" "length" "I", .fieldLink RX6 26 "WinderLaddersModel" "pad" "[I", .fieldLink RX6 141 "WinderLaddersModel" "isWrong" "Z", .methodLink RX6 35 yX6_in, .static yX6_in, .initialized RX6, .code yX6_in cX6_in 3 (some .boolean)] ++ wsX60)
def wsX6_isNext : List Cond := .code yX6_isNext cX6_isNext 3 (some .boolean) :: ([.fieldLink RX6 141 "WinderLaddersModel" "isWrong" "Z", .fieldLink RX6 138 "WinderLaddersModel" "place" "I", .fieldLink RX6 127 "WinderLaddersModel" "length" "I", .fieldLink RX6 26 "WinderLaddersModel" "pad" "[I", .methodLink RX6 35 yX6_in, .static yX6_in, .initialized RX6, .code yX6_in cX6_in 3 (some .boolean)] ++ wsX60)
def wsX6_number : List Cond := .code yX6_number cX6_number 2 (some .int) :: ([.methodLink RX6 145 yX6_sign, .instanceMethod yX6_sign, .selects RX6 yX6_sign yX6_sign, .initialized RX6, .code yX6_sign cX6_sign 4 (some .int), .fieldLink RX6 138 "WinderLaddersModel" "place" "I", .fieldLink RX6 127 "WinderLaddersModel" "length" "I", .fieldLink RX6 26 "WinderLaddersModel" "pad" "[I", .fieldLink RX6 141 "WinderLaddersModel" "isWrong" "Z", .methodLink RX6 35 yX6_in, .static yX6_in, .code yX6_in cX6_in 3 (some .boolean), .methodLink RX6 148 yX6_isNext, .instanceMethod yX6_isNext, .selects RX6 yX6_isNext yX6_isNext, .code yX6_isNext cX6_isNext 3 (some .boolean)] ++ wsX60)
def wsX6_order_r1 : List Cond := [Cond.fieldLink RX6 138 "WinderLaddersModel" "place" "I", Cond.fieldLink RX6 127 "WinderLaddersModel" "length" "I", Cond.fieldLink RX6 26 "WinderLaddersModel" "pad" "[I", Cond.fieldLink RX6 141 "WinderLaddersModel" "isWrong" "Z", Cond.fieldLink RX6 152 "WinderLaddersModel" "letter" "I", Cond.fieldLink RX6 158 "WinderLaddersModel" "one" "I", Cond.fieldLink RX6 161 "WinderLaddersModel" "two" "I", Cond.fieldLink RX6 164 "WinderLaddersModel" "three" "I", Cond.fieldLink RX6 29 "WinderLaddersModel" "row" "[I", Cond.fieldLink RX6 58 "WinderLaddersModel" "inRow" "I", Cond.methodLink RX6 155 yX6_number, Cond.instanceMethod yX6_number, Cond.selects RX6 yX6_number yX6_number, Cond.initialized RX6, Cond.code yX6_number cX6_number 2 (some .int), Cond.methodLink RX6 145 yX6_sign, Cond.instanceMethod yX6_sign, Cond.selects RX6 yX6_sign yX6_sign, Cond.code yX6_sign cX6_sign 4 (some .int), Cond.methodLink RX6 35 yX6_in, Cond.static yX6_in, Cond.code yX6_in cX6_in 3 (some .boolean), Cond.methodLink RX6 148 yX6_isNext, Cond.instanceMethod yX6_isNext]
def wsX6_order_r2 : List Cond := [Cond.selects RX6 yX6_isNext yX6_isNext, Cond.code yX6_isNext cX6_isNext 3 (some .boolean)]
def wsX6_order : List Cond := .code yX6_order cX6_order 5 none :: ((wsX6_order_r1 ++ wsX6_order_r2) ++ wsX60)
def wsX6_rowFault : List Cond := .code yX6_rowFault cX6_rowFault 3 (some .int) :: ([.fieldLink RX6 58 "WinderLaddersModel" "inRow" "I", .fieldLink RX6 29 "WinderLaddersModel" "row" "[I", .methodLink RX6 101 yX6_isClock, .instanceMethod yX6_isClock, .selects RX6 yX6_isClock yX6_isClock, .initialized RX6, .code yX6_isClock cX6_isClock 2 (some .boolean), .fieldLink RX6 7 "WinderLaddersModel" "s" "[I", .methodLink RX6 35 yX6_in, .static yX6_in, .code yX6_in cX6_in 3 (some .boolean)] ++ wsX60)
def wsX6_does_r1 : List Cond := [Cond.fieldLink RX6 152 "WinderLaddersModel" "letter" "I", Cond.fieldLink RX6 158 "WinderLaddersModel" "one" "I", Cond.fieldLink RX6 161 "WinderLaddersModel" "two" "I", Cond.fieldLink RX6 164 "WinderLaddersModel" "three" "I", Cond.methodLink RX6 88 yX6_hangFault, Cond.instanceMethod yX6_hangFault, Cond.selects RX6 yX6_hangFault yX6_hangFault, Cond.initialized RX6, Cond.code yX6_hangFault cX6_hangFault 4 (some .int), Cond.fieldLink RX6 7 "WinderLaddersModel" "s" "[I", Cond.methodLink RX6 35 yX6_in, Cond.static yX6_in, Cond.code yX6_in cX6_in 3 (some .boolean), Cond.methodLink RX6 95 yX6_ladderFault, Cond.instanceMethod yX6_ladderFault, Cond.selects RX6 yX6_ladderFault yX6_ladderFault, Cond.code yX6_ladderFault cX6_ladderFault 2 (some .int), Cond.methodLink RX6 167 yX6_rowFault, Cond.instanceMethod yX6_rowFault, Cond.selects RX6 yX6_rowFault yX6_rowFault, Cond.code yX6_rowFault cX6_rowFault 3 (some .int), Cond.fieldLink RX6 58 "WinderLaddersModel" "inRow" "I", Cond.fieldLink RX6 29 "WinderLaddersModel" "row" "[I", Cond.methodLink RX6 101 yX6_isClock]
def wsX6_does_r2 : List Cond := [Cond.instanceMethod yX6_isClock, Cond.selects RX6 yX6_isClock yX6_isClock, Cond.code yX6_isClock cX6_isClock 2 (some .boolean), Cond.methodLink RX6 111 yX6_passFault, Cond.instanceMethod yX6_passFault, Cond.selects RX6 yX6_passFault yX6_passFault, Cond.code yX6_passFault cX6_passFault 2 (some .int), Cond.methodLink RX6 92 yX6_hangs, Cond.instanceMethod yX6_hangs, Cond.selects RX6 yX6_hangs yX6_hangs, Cond.code yX6_hangs cX6_hangs 6 (some .int), Cond.methodLink RX6 43 yX6_at, Cond.static yX6_at, Cond.code yX6_at cX6_at 2 (some .int), Cond.methodLink RX6 98 yX6_buys, Cond.instanceMethod yX6_buys, Cond.selects RX6 yX6_buys yX6_buys, Cond.code yX6_buys cX6_buys 2 (some .int), Cond.methodLink RX6 108 yX6_goes, Cond.instanceMethod yX6_goes, Cond.selects RX6 yX6_goes yX6_goes, Cond.code yX6_goes cX6_goes 3 (some .int), Cond.methodLink RX6 68 yX6_minutes, Cond.instanceMethod yX6_minutes]
def wsX6_does_r3 : List Cond := [Cond.selects RX6 yX6_minutes yX6_minutes, Cond.code yX6_minutes cX6_minutes 8 (some .int), Cond.methodLink RX6 51 yX6_ladderOf, Cond.instanceMethod yX6_ladderOf, Cond.selects RX6 yX6_ladderOf yX6_ladderOf, Cond.code yX6_ladderOf cX6_ladderOf 5 (some .int), Cond.methodLink RX6 61 yX6_way, Cond.instanceMethod yX6_way, Cond.selects RX6 yX6_way yX6_way, Cond.code yX6_way cX6_way 3 (some .int), Cond.methodLink RX6 47 yX6_size, Cond.static yX6_size, Cond.code yX6_size cX6_size 1 (some .int), Cond.methodLink RX6 64 yX6_canWind, Cond.instanceMethod yX6_canWind, Cond.selects RX6 yX6_canWind yX6_canWind, Cond.code yX6_canWind cX6_canWind 2 (some .boolean), Cond.methodLink RX6 72 yX6_work, Cond.instanceMethod yX6_work, Cond.selects RX6 yX6_work yX6_work, Cond.code yX6_work cX6_work 4 none, Cond.methodLink RX6 54 yX6_rate, Cond.instanceMethod yX6_rate, Cond.selects RX6 yX6_rate yX6_rate]
def wsX6_does_r4 : List Cond := [Cond.code yX6_rate cX6_rate 2 (some .int), Cond.methodLink RX6 114 yX6_passes, Cond.instanceMethod yX6_passes, Cond.selects RX6 yX6_passes yX6_passes, Cond.code yX6_passes cX6_passes 4 (some .int), Cond.methodLink RX6 76 yX6_day, Cond.instanceMethod yX6_day, Cond.selects RX6 yX6_day yX6_day, Cond.code yX6_day cX6_day 2 none, Cond.constant RX6 57 (43200), Cond.methodLink RX6 79 yX6_still, Cond.instanceMethod yX6_still, Cond.selects RX6 yX6_still yX6_still, Cond.code yX6_still cX6_still 3 (some .int), Cond.methodLink RX6 82 yX6_many, Cond.static yX6_many, Cond.code yX6_many cX6_many 3 (some .int), Cond.methodLink RX6 117 yX6_changes, Cond.instanceMethod yX6_changes, Cond.selects RX6 yX6_changes yX6_changes, Cond.code yX6_changes cX6_changes 3 (some .int)]
def wsX6_does : List Cond := .code yX6_does cX6_does 4 (some .boolean) :: ((wsX6_does_r1 ++ (wsX6_does_r2 ++ (wsX6_does_r3 ++ wsX6_does_r4))) ++ wsX60)
def wsX6_go_r1 : List Cond := [Cond.fieldLink RX6 138 "WinderLaddersModel" "place" "I", Cond.fieldLink RX6 141 "WinderLaddersModel" "isWrong" "Z", Cond.fieldLink RX6 127 "WinderLaddersModel" "length" "I", Cond.methodLink RX6 170 yX6_order, Cond.instanceMethod yX6_order, Cond.selects RX6 yX6_order yX6_order, Cond.initialized RX6, Cond.code yX6_order cX6_order 5 none, Cond.fieldLink RX6 26 "WinderLaddersModel" "pad" "[I", Cond.fieldLink RX6 152 "WinderLaddersModel" "letter" "I", Cond.fieldLink RX6 158 "WinderLaddersModel" "one" "I", Cond.fieldLink RX6 161 "WinderLaddersModel" "two" "I", Cond.fieldLink RX6 164 "WinderLaddersModel" "three" "I", Cond.fieldLink RX6 29 "WinderLaddersModel" "row" "[I", Cond.fieldLink RX6 58 "WinderLaddersModel" "inRow" "I", Cond.methodLink RX6 155 yX6_number, Cond.instanceMethod yX6_number, Cond.selects RX6 yX6_number yX6_number, Cond.code yX6_number cX6_number 2 (some .int), Cond.methodLink RX6 145 yX6_sign, Cond.instanceMethod yX6_sign, Cond.selects RX6 yX6_sign yX6_sign, Cond.code yX6_sign cX6_sign 4 (some .int), Cond.methodLink RX6 35 yX6_in]
def wsX6_go_r2 : List Cond := [Cond.static yX6_in, Cond.code yX6_in cX6_in 3 (some .boolean), Cond.methodLink RX6 148 yX6_isNext, Cond.instanceMethod yX6_isNext, Cond.selects RX6 yX6_isNext yX6_isNext, Cond.code yX6_isNext cX6_isNext 3 (some .boolean), Cond.methodLink RX6 173 yX6_does, Cond.instanceMethod yX6_does, Cond.selects RX6 yX6_does yX6_does, Cond.code yX6_does cX6_does 4 (some .boolean), Cond.methodLink RX6 88 yX6_hangFault, Cond.instanceMethod yX6_hangFault, Cond.selects RX6 yX6_hangFault yX6_hangFault, Cond.code yX6_hangFault cX6_hangFault 4 (some .int), Cond.fieldLink RX6 7 "WinderLaddersModel" "s" "[I", Cond.methodLink RX6 95 yX6_ladderFault, Cond.instanceMethod yX6_ladderFault, Cond.selects RX6 yX6_ladderFault yX6_ladderFault, Cond.code yX6_ladderFault cX6_ladderFault 2 (some .int), Cond.methodLink RX6 167 yX6_rowFault, Cond.instanceMethod yX6_rowFault, Cond.selects RX6 yX6_rowFault yX6_rowFault, Cond.code yX6_rowFault cX6_rowFault 3 (some .int), Cond.methodLink RX6 101 yX6_isClock]
def wsX6_go_r3 : List Cond := [Cond.instanceMethod yX6_isClock, Cond.selects RX6 yX6_isClock yX6_isClock, Cond.code yX6_isClock cX6_isClock 2 (some .boolean), Cond.methodLink RX6 111 yX6_passFault, Cond.instanceMethod yX6_passFault, Cond.selects RX6 yX6_passFault yX6_passFault, Cond.code yX6_passFault cX6_passFault 2 (some .int), Cond.methodLink RX6 92 yX6_hangs, Cond.instanceMethod yX6_hangs, Cond.selects RX6 yX6_hangs yX6_hangs, Cond.code yX6_hangs cX6_hangs 6 (some .int), Cond.methodLink RX6 43 yX6_at, Cond.static yX6_at, Cond.code yX6_at cX6_at 2 (some .int), Cond.methodLink RX6 98 yX6_buys, Cond.instanceMethod yX6_buys, Cond.selects RX6 yX6_buys yX6_buys, Cond.code yX6_buys cX6_buys 2 (some .int), Cond.methodLink RX6 108 yX6_goes, Cond.instanceMethod yX6_goes, Cond.selects RX6 yX6_goes yX6_goes, Cond.code yX6_goes cX6_goes 3 (some .int), Cond.methodLink RX6 68 yX6_minutes, Cond.instanceMethod yX6_minutes]
def wsX6_go_r4 : List Cond := [Cond.selects RX6 yX6_minutes yX6_minutes, Cond.code yX6_minutes cX6_minutes 8 (some .int), Cond.methodLink RX6 51 yX6_ladderOf, Cond.instanceMethod yX6_ladderOf, Cond.selects RX6 yX6_ladderOf yX6_ladderOf, Cond.code yX6_ladderOf cX6_ladderOf 5 (some .int), Cond.methodLink RX6 61 yX6_way, Cond.instanceMethod yX6_way, Cond.selects RX6 yX6_way yX6_way, Cond.code yX6_way cX6_way 3 (some .int), Cond.methodLink RX6 47 yX6_size, Cond.static yX6_size, Cond.code yX6_size cX6_size 1 (some .int), Cond.methodLink RX6 64 yX6_canWind, Cond.instanceMethod yX6_canWind, Cond.selects RX6 yX6_canWind yX6_canWind, Cond.code yX6_canWind cX6_canWind 2 (some .boolean), Cond.methodLink RX6 72 yX6_work, Cond.instanceMethod yX6_work, Cond.selects RX6 yX6_work yX6_work, Cond.code yX6_work cX6_work 4 none, Cond.methodLink RX6 54 yX6_rate, Cond.instanceMethod yX6_rate, Cond.selects RX6 yX6_rate yX6_rate]
def wsX6_go_r5 : List Cond := [Cond.code yX6_rate cX6_rate 2 (some .int), Cond.methodLink RX6 114 yX6_passes, Cond.instanceMethod yX6_passes, Cond.selects RX6 yX6_passes yX6_passes, Cond.code yX6_passes cX6_passes 4 (some .int), Cond.methodLink RX6 76 yX6_day, Cond.instanceMethod yX6_day, Cond.selects RX6 yX6_day yX6_day, Cond.code yX6_day cX6_day 2 none, Cond.constant RX6 57 (43200), Cond.methodLink RX6 79 yX6_still, Cond.instanceMethod yX6_still, Cond.selects RX6 yX6_still yX6_still, Cond.code yX6_still cX6_still 3 (some .int), Cond.methodLink RX6 82 yX6_many, Cond.static yX6_many, Cond.code yX6_many cX6_many 3 (some .int), Cond.methodLink RX6 117 yX6_changes, Cond.instanceMethod yX6_changes, Cond.selects RX6 yX6_changes yX6_changes, Cond.code yX6_changes cX6_changes 3 (some .int)]
def wsX6_go : List Cond := .code yX6_go cX6_go 6 (some .int) :: ((wsX6_go_r1 ++ (wsX6_go_r2 ++ (wsX6_go_r3 ++ (wsX6_go_r4 ++ wsX6_go_r5)))) ++ wsX60)
def wsX6_fault_r1 : List Cond := [Cond.fieldLink RX6 141 "WinderLaddersModel" "isWrong" "Z", Cond.fieldLink RX6 138 "WinderLaddersModel" "place" "I", Cond.methodLink RX6 177 yX6_go, Cond.instanceMethod yX6_go, Cond.selects RX6 yX6_go yX6_go, Cond.initialized RX6, Cond.code yX6_go cX6_go 6 (some .int), Cond.fieldLink RX6 127 "WinderLaddersModel" "length" "I", Cond.methodLink RX6 170 yX6_order, Cond.instanceMethod yX6_order, Cond.selects RX6 yX6_order yX6_order, Cond.code yX6_order cX6_order 5 none, Cond.fieldLink RX6 26 "WinderLaddersModel" "pad" "[I", Cond.fieldLink RX6 152 "WinderLaddersModel" "letter" "I", Cond.fieldLink RX6 158 "WinderLaddersModel" "one" "I", Cond.fieldLink RX6 161 "WinderLaddersModel" "two" "I", Cond.fieldLink RX6 164 "WinderLaddersModel" "three" "I", Cond.fieldLink RX6 29 "WinderLaddersModel" "row" "[I", Cond.fieldLink RX6 58 "WinderLaddersModel" "inRow" "I", Cond.methodLink RX6 155 yX6_number, Cond.instanceMethod yX6_number, Cond.selects RX6 yX6_number yX6_number, Cond.code yX6_number cX6_number 2 (some .int), Cond.methodLink RX6 145 yX6_sign]
def wsX6_fault_r2 : List Cond := [Cond.instanceMethod yX6_sign, Cond.selects RX6 yX6_sign yX6_sign, Cond.code yX6_sign cX6_sign 4 (some .int), Cond.methodLink RX6 35 yX6_in, Cond.static yX6_in, Cond.code yX6_in cX6_in 3 (some .boolean), Cond.methodLink RX6 148 yX6_isNext, Cond.instanceMethod yX6_isNext, Cond.selects RX6 yX6_isNext yX6_isNext, Cond.code yX6_isNext cX6_isNext 3 (some .boolean), Cond.methodLink RX6 173 yX6_does, Cond.instanceMethod yX6_does, Cond.selects RX6 yX6_does yX6_does, Cond.code yX6_does cX6_does 4 (some .boolean), Cond.methodLink RX6 88 yX6_hangFault, Cond.instanceMethod yX6_hangFault, Cond.selects RX6 yX6_hangFault yX6_hangFault, Cond.code yX6_hangFault cX6_hangFault 4 (some .int), Cond.fieldLink RX6 7 "WinderLaddersModel" "s" "[I", Cond.methodLink RX6 95 yX6_ladderFault, Cond.instanceMethod yX6_ladderFault, Cond.selects RX6 yX6_ladderFault yX6_ladderFault, Cond.code yX6_ladderFault cX6_ladderFault 2 (some .int), Cond.methodLink RX6 167 yX6_rowFault]
def wsX6_fault_r3 : List Cond := [Cond.instanceMethod yX6_rowFault, Cond.selects RX6 yX6_rowFault yX6_rowFault, Cond.code yX6_rowFault cX6_rowFault 3 (some .int), Cond.methodLink RX6 101 yX6_isClock, Cond.instanceMethod yX6_isClock, Cond.selects RX6 yX6_isClock yX6_isClock, Cond.code yX6_isClock cX6_isClock 2 (some .boolean), Cond.methodLink RX6 111 yX6_passFault, Cond.instanceMethod yX6_passFault, Cond.selects RX6 yX6_passFault yX6_passFault, Cond.code yX6_passFault cX6_passFault 2 (some .int), Cond.methodLink RX6 92 yX6_hangs, Cond.instanceMethod yX6_hangs, Cond.selects RX6 yX6_hangs yX6_hangs, Cond.code yX6_hangs cX6_hangs 6 (some .int), Cond.methodLink RX6 43 yX6_at, Cond.static yX6_at, Cond.code yX6_at cX6_at 2 (some .int), Cond.methodLink RX6 98 yX6_buys, Cond.instanceMethod yX6_buys, Cond.selects RX6 yX6_buys yX6_buys, Cond.code yX6_buys cX6_buys 2 (some .int), Cond.methodLink RX6 108 yX6_goes, Cond.instanceMethod yX6_goes]
def wsX6_fault_r4 : List Cond := [Cond.selects RX6 yX6_goes yX6_goes, Cond.code yX6_goes cX6_goes 3 (some .int), Cond.methodLink RX6 68 yX6_minutes, Cond.instanceMethod yX6_minutes, Cond.selects RX6 yX6_minutes yX6_minutes, Cond.code yX6_minutes cX6_minutes 8 (some .int), Cond.methodLink RX6 51 yX6_ladderOf, Cond.instanceMethod yX6_ladderOf, Cond.selects RX6 yX6_ladderOf yX6_ladderOf, Cond.code yX6_ladderOf cX6_ladderOf 5 (some .int), Cond.methodLink RX6 61 yX6_way, Cond.instanceMethod yX6_way, Cond.selects RX6 yX6_way yX6_way, Cond.code yX6_way cX6_way 3 (some .int), Cond.methodLink RX6 47 yX6_size, Cond.static yX6_size, Cond.code yX6_size cX6_size 1 (some .int), Cond.methodLink RX6 64 yX6_canWind, Cond.instanceMethod yX6_canWind, Cond.selects RX6 yX6_canWind yX6_canWind, Cond.code yX6_canWind cX6_canWind 2 (some .boolean), Cond.methodLink RX6 72 yX6_work, Cond.instanceMethod yX6_work, Cond.selects RX6 yX6_work yX6_work]
def wsX6_fault_r5 : List Cond := [Cond.code yX6_work cX6_work 4 none, Cond.methodLink RX6 54 yX6_rate, Cond.instanceMethod yX6_rate, Cond.selects RX6 yX6_rate yX6_rate, Cond.code yX6_rate cX6_rate 2 (some .int), Cond.methodLink RX6 114 yX6_passes, Cond.instanceMethod yX6_passes, Cond.selects RX6 yX6_passes yX6_passes, Cond.code yX6_passes cX6_passes 4 (some .int), Cond.methodLink RX6 76 yX6_day, Cond.instanceMethod yX6_day, Cond.selects RX6 yX6_day yX6_day, Cond.code yX6_day cX6_day 2 none, Cond.constant RX6 57 (43200), Cond.methodLink RX6 79 yX6_still, Cond.instanceMethod yX6_still, Cond.selects RX6 yX6_still yX6_still, Cond.code yX6_still cX6_still 3 (some .int), Cond.methodLink RX6 82 yX6_many, Cond.static yX6_many, Cond.code yX6_many cX6_many 3 (some .int), Cond.methodLink RX6 117 yX6_changes, Cond.instanceMethod yX6_changes, Cond.selects RX6 yX6_changes yX6_changes]
def wsX6_fault_r6 : List Cond := [Cond.code yX6_changes cX6_changes 3 (some .int)]
def wsX6_fault : List Cond := .code yX6_fault cX6_fault 2 (some .int) :: ((wsX6_fault_r1 ++ (wsX6_fault_r2 ++ (wsX6_fault_r3 ++ (wsX6_fault_r4 ++ (wsX6_fault_r5 ++ wsX6_fault_r6))))) ++ wsX60)
def wsX6_carryOut_r1 : List Cond := [Cond.fieldLink RX6 141 "WinderLaddersModel" "isWrong" "Z", Cond.fieldLink RX6 127 "WinderLaddersModel" "length" "I", Cond.methodLink RX6 177 yX6_go, Cond.instanceMethod yX6_go, Cond.selects RX6 yX6_go yX6_go, Cond.initialized RX6, Cond.code yX6_go cX6_go 6 (some .int), Cond.fieldLink RX6 138 "WinderLaddersModel" "place" "I", Cond.methodLink RX6 170 yX6_order, Cond.instanceMethod yX6_order, Cond.selects RX6 yX6_order yX6_order, Cond.code yX6_order cX6_order 5 none, Cond.fieldLink RX6 26 "WinderLaddersModel" "pad" "[I", Cond.fieldLink RX6 152 "WinderLaddersModel" "letter" "I", Cond.fieldLink RX6 158 "WinderLaddersModel" "one" "I", Cond.fieldLink RX6 161 "WinderLaddersModel" "two" "I", Cond.fieldLink RX6 164 "WinderLaddersModel" "three" "I", Cond.fieldLink RX6 29 "WinderLaddersModel" "row" "[I", Cond.fieldLink RX6 58 "WinderLaddersModel" "inRow" "I", Cond.methodLink RX6 155 yX6_number, Cond.instanceMethod yX6_number, Cond.selects RX6 yX6_number yX6_number, Cond.code yX6_number cX6_number 2 (some .int), Cond.methodLink RX6 145 yX6_sign]
def wsX6_carryOut_r2 : List Cond := [Cond.instanceMethod yX6_sign, Cond.selects RX6 yX6_sign yX6_sign, Cond.code yX6_sign cX6_sign 4 (some .int), Cond.methodLink RX6 35 yX6_in, Cond.static yX6_in, Cond.code yX6_in cX6_in 3 (some .boolean), Cond.methodLink RX6 148 yX6_isNext, Cond.instanceMethod yX6_isNext, Cond.selects RX6 yX6_isNext yX6_isNext, Cond.code yX6_isNext cX6_isNext 3 (some .boolean), Cond.methodLink RX6 173 yX6_does, Cond.instanceMethod yX6_does, Cond.selects RX6 yX6_does yX6_does, Cond.code yX6_does cX6_does 4 (some .boolean), Cond.methodLink RX6 88 yX6_hangFault, Cond.instanceMethod yX6_hangFault, Cond.selects RX6 yX6_hangFault yX6_hangFault, Cond.code yX6_hangFault cX6_hangFault 4 (some .int), Cond.fieldLink RX6 7 "WinderLaddersModel" "s" "[I", Cond.methodLink RX6 95 yX6_ladderFault, Cond.instanceMethod yX6_ladderFault, Cond.selects RX6 yX6_ladderFault yX6_ladderFault, Cond.code yX6_ladderFault cX6_ladderFault 2 (some .int), Cond.methodLink RX6 167 yX6_rowFault]
def wsX6_carryOut_r3 : List Cond := [Cond.instanceMethod yX6_rowFault, Cond.selects RX6 yX6_rowFault yX6_rowFault, Cond.code yX6_rowFault cX6_rowFault 3 (some .int), Cond.methodLink RX6 101 yX6_isClock, Cond.instanceMethod yX6_isClock, Cond.selects RX6 yX6_isClock yX6_isClock, Cond.code yX6_isClock cX6_isClock 2 (some .boolean), Cond.methodLink RX6 111 yX6_passFault, Cond.instanceMethod yX6_passFault, Cond.selects RX6 yX6_passFault yX6_passFault, Cond.code yX6_passFault cX6_passFault 2 (some .int), Cond.methodLink RX6 92 yX6_hangs, Cond.instanceMethod yX6_hangs, Cond.selects RX6 yX6_hangs yX6_hangs, Cond.code yX6_hangs cX6_hangs 6 (some .int), Cond.methodLink RX6 43 yX6_at, Cond.static yX6_at, Cond.code yX6_at cX6_at 2 (some .int), Cond.methodLink RX6 98 yX6_buys, Cond.instanceMethod yX6_buys, Cond.selects RX6 yX6_buys yX6_buys, Cond.code yX6_buys cX6_buys 2 (some .int), Cond.methodLink RX6 108 yX6_goes, Cond.instanceMethod yX6_goes]
def wsX6_carryOut_r4 : List Cond := [Cond.selects RX6 yX6_goes yX6_goes, Cond.code yX6_goes cX6_goes 3 (some .int), Cond.methodLink RX6 68 yX6_minutes, Cond.instanceMethod yX6_minutes, Cond.selects RX6 yX6_minutes yX6_minutes, Cond.code yX6_minutes cX6_minutes 8 (some .int), Cond.methodLink RX6 51 yX6_ladderOf, Cond.instanceMethod yX6_ladderOf, Cond.selects RX6 yX6_ladderOf yX6_ladderOf, Cond.code yX6_ladderOf cX6_ladderOf 5 (some .int), Cond.methodLink RX6 61 yX6_way, Cond.instanceMethod yX6_way, Cond.selects RX6 yX6_way yX6_way, Cond.code yX6_way cX6_way 3 (some .int), Cond.methodLink RX6 47 yX6_size, Cond.static yX6_size, Cond.code yX6_size cX6_size 1 (some .int), Cond.methodLink RX6 64 yX6_canWind, Cond.instanceMethod yX6_canWind, Cond.selects RX6 yX6_canWind yX6_canWind, Cond.code yX6_canWind cX6_canWind 2 (some .boolean), Cond.methodLink RX6 72 yX6_work, Cond.instanceMethod yX6_work, Cond.selects RX6 yX6_work yX6_work]
def wsX6_carryOut_r5 : List Cond := [Cond.code yX6_work cX6_work 4 none, Cond.methodLink RX6 54 yX6_rate, Cond.instanceMethod yX6_rate, Cond.selects RX6 yX6_rate yX6_rate, Cond.code yX6_rate cX6_rate 2 (some .int), Cond.methodLink RX6 114 yX6_passes, Cond.instanceMethod yX6_passes, Cond.selects RX6 yX6_passes yX6_passes, Cond.code yX6_passes cX6_passes 4 (some .int), Cond.methodLink RX6 76 yX6_day, Cond.instanceMethod yX6_day, Cond.selects RX6 yX6_day yX6_day, Cond.code yX6_day cX6_day 2 none, Cond.constant RX6 57 (43200), Cond.methodLink RX6 79 yX6_still, Cond.instanceMethod yX6_still, Cond.selects RX6 yX6_still yX6_still, Cond.code yX6_still cX6_still 3 (some .int), Cond.methodLink RX6 82 yX6_many, Cond.static yX6_many, Cond.code yX6_many cX6_many 3 (some .int), Cond.methodLink RX6 117 yX6_changes, Cond.instanceMethod yX6_changes, Cond.selects RX6 yX6_changes yX6_changes]
def wsX6_carryOut_r6 : List Cond := [Cond.code yX6_changes cX6_changes 3 (some .int), Cond.methodLink RX6 85 yX6_know, Cond.instanceMethod yX6_know, Cond.selects RX6 yX6_know yX6_know, Cond.code yX6_know cX6_know 2 none, Cond.fieldLink RX6 39 "WinderLaddersModel" "known" "I", Cond.fieldLink RX6 16 "WinderLaddersModel" "before" "[I"]
def wsX6_carryOut : List Cond := .code yX6_carryOut cX6_carryOut 3 (some .int) :: ((wsX6_carryOut_r1 ++ (wsX6_carryOut_r2 ++ (wsX6_carryOut_r3 ++ (wsX6_carryOut_r4 ++ (wsX6_carryOut_r5 ++ wsX6_carryOut_r6))))) ++ wsX60)
def wsX6_undo : List Cond := .code yX6_undo cX6_undo 2 (some .int) :: ([.fieldLink RX6 39 "WinderLaddersModel" "known" "I", .fieldLink RX6 7 "WinderLaddersModel" "s" "[I", .fieldLink RX6 16 "WinderLaddersModel" "before" "[I"] ++ wsX60)
def wsX6_save : List Cond := .code yX6_save cX6_save 3 (some .int) :: ([.fieldLink RX6 19 "WinderLaddersModel" "slots" "[I", .fieldLink RX6 7 "WinderLaddersModel" "s" "[I", .fieldLink RX6 22 "WinderLaddersModel" "isSaved" "[Z", .methodLink RX6 35 yX6_in, .static yX6_in, .initialized RX6, .code yX6_in cX6_in 3 (some .boolean)] ++ wsX60)
def wsX6_restore : List Cond := .code yX6_restore cX6_restore 3 (some .int) :: ([.fieldLink RX6 22 "WinderLaddersModel" "isSaved" "[Z", .fieldLink RX6 7 "WinderLaddersModel" "s" "[I", .fieldLink RX6 19 "WinderLaddersModel" "slots" "[I", .methodLink RX6 35 yX6_in, .static yX6_in, .initialized RX6, .code yX6_in cX6_in 3 (some .boolean), .methodLink RX6 85 yX6_know, .instanceMethod yX6_know, .selects RX6 yX6_know yX6_know, .code yX6_know cX6_know 2 none, .fieldLink RX6 39 "WinderLaddersModel" "known" "I", .fieldLink RX6 16 "WinderLaddersModel" "before" "[I"] ++ wsX60)
def wsJ9_abs_0f7a4 : List Cond := .code yJ9_abs_0f7a4 cJ9_abs_0f7a4 1 (some .int) :: ([])
def wsJ9_max_7cf53 : List Cond := .code yJ9_max_7cf53 cJ9_max_7cf53 2 (some .int) :: ([])
def wsL_law_r1 : List Cond := [Cond.classLink RL 7 RX5, Cond.instantiable RX5 7, Cond.initialized RX5, Cond.classLink RL 10 RX6, Cond.instantiable RX6 17, Cond.initialized RX6, Cond.constantLong RL 77 (4294967295), Cond.methodLink RL 9 yX5_init, Cond.instanceMethod yX5_init, Cond.code yX5_init cX5_init 2 none, Cond.methodLink RX5 3 objectInit, Cond.instanceMethod objectInit, Cond.code objectInit ⟨#[0xb1]⟩ 1 none, Cond.classLink RX5 9 RX4, Cond.instantiable RX4 7, Cond.initialized RX4, Cond.fieldLink RX5 12 "WinderLadders" "now" "LWinderLadders$State;", Cond.classLink RX5 16 RX1, Cond.instantiable RX1 2, Cond.initialized RX1, Cond.fieldLink RX5 19 "WinderLadders" "history" "LWinderLadders$History;", Cond.fieldLink RX5 23 "WinderLadders" "slots" "[LWinderLadders$State;", Cond.arrayClass .boolean, Cond.fieldLink RX5 27 "WinderLadders" "slotHolds" "[Z"]
def wsL_law_r2 : List Cond := [Cond.classLink RX5 31 RX2, Cond.instantiable RX2 5, Cond.initialized RX2, Cond.fieldLink RX5 34 "WinderLadders" "pad" "LWinderLadders$Pad;", Cond.classLink RX5 38 RX3, Cond.instantiable RX3 2, Cond.initialized RX3, Cond.fieldLink RX5 41 "WinderLadders" "row" "LWinderLadders$Row;", Cond.arrayClass .int, Cond.fieldLink RX5 45 "WinderLadders" "lasting" "[I", Cond.methodLink RX5 11 yX4_init, Cond.instanceMethod yX4_init, Cond.code yX4_init cX4_init 2 none, Cond.methodLink RX4 3 objectInit, Cond.fieldLink RX4 9 "WinderLadders$State" "settings" "[I", Cond.classLink RX4 15 RX0, Cond.fieldLink RX4 17 "WinderLadders$State" "clocks" "[LWinderLadders$Clock;", Cond.fieldLink RX4 21 "WinderLadders$State" "ladders" "[I", Cond.methodLink RX4 27 arraycopyName, Cond.native arraycopyName, Cond.static arraycopyName, Cond.initialized "java/lang/System", Cond.instantiable RX0 8, Cond.initialized RX0]
def wsL_law_r3 : List Cond := [Cond.instanceMethod yX0_init, Cond.code yX0_init cX0_init 1 none, Cond.methodLink RX0 3 objectInit, Cond.methodLink RX5 18 yX1_init, Cond.instanceMethod yX1_init, Cond.code yX1_init cX1_init 2 none, Cond.methodLink RX1 3 objectInit, Cond.classLink RX1 9 RX4, Cond.fieldLink RX1 11 "WinderLadders$History" "states" "[LWinderLadders$State;", Cond.methodLink RX1 17 yX4_init, Cond.instanceMethod yX2_init, Cond.code yX2_init cX2_init 1 none, Cond.methodLink RX2 3 objectInit, Cond.arrayClass .char, Cond.fieldLink RX2 9 "WinderLadders$Pad" "signs" "[C", Cond.classLink RX2 15 RX3, Cond.fieldLink RX2 18 "WinderLadders$Pad" "numbers" "LWinderLadders$Row;", Cond.instanceMethod yX3_init, Cond.code yX3_init cX3_init 1 none, Cond.methodLink RX3 3 objectInit, Cond.fieldLink RX3 9 "WinderLadders$Row" "numbers" "[I", Cond.methodLink RL 12 yX6_init, Cond.instanceMethod yX6_init, Cond.code yX6_init cX6_init 1 none]
def wsL_law_r4 : List Cond := [Cond.methodLink RX6 1 objectInit, Cond.fieldLink RX6 7 "WinderLaddersModel" "s" "[I", Cond.fieldLink RX6 13 "WinderLaddersModel" "aside" "[I", Cond.fieldLink RX6 16 "WinderLaddersModel" "before" "[I", Cond.fieldLink RX6 19 "WinderLaddersModel" "slots" "[I", Cond.fieldLink RX6 22 "WinderLaddersModel" "isSaved" "[Z", Cond.fieldLink RX6 26 "WinderLaddersModel" "pad" "[I", Cond.fieldLink RX6 29 "WinderLaddersModel" "row" "[I", Cond.fieldLink RX6 32 "WinderLaddersModel" "last" "[I", Cond.methodLink RL 13 yX5_set, Cond.instanceMethod yX5_set, Cond.selects RX5 yX5_set yX5_set, Cond.code yX5_set cX5_set 3 (some .int), Cond.methodLink RX5 49 yX1_prepare, Cond.instanceMethod yX1_prepare, Cond.selects RX1 yX1_prepare yX1_prepare, Cond.code yX1_prepare cX1_prepare 2 none, Cond.fieldLink RX1 18 "WinderLadders$History" "depth" "I", Cond.methodLink RX1 22 yX4_copyFrom, Cond.instanceMethod yX4_copyFrom, Cond.selects RX4 yX4_copyFrom yX4_copyFrom, Cond.code yX4_copyFrom cX4_copyFrom 3 none, Cond.fieldLink RX4 34 "WinderLadders$State" "clockCount" "I", Cond.fieldLink RX4 42 "WinderLadders$State" "ladderCount" "I"]
def wsL_law_r5 : List Cond := [Cond.fieldLink RX4 45 "WinderLadders$State" "days" "I", Cond.fieldLink RX4 48 "WinderLadders$State" "minutes" "I", Cond.methodLink RX4 38 yX0_copyFrom, Cond.instanceMethod yX0_copyFrom, Cond.selects RX0 yX0_copyFrom yX0_copyFrom, Cond.code yX0_copyFrom cX0_copyFrom 2 none, Cond.fieldLink RX0 9 "WinderLadders$Clock" "house" "I", Cond.fieldLink RX0 15 "WinderLadders$Clock" "rungs" "I", Cond.fieldLink RX0 18 "WinderLadders$Clock" "drift" "I", Cond.fieldLink RX0 21 "WinderLadders$Clock" "screw" "I", Cond.fieldLink RX0 24 "WinderLadders$Clock" "off" "I", Cond.fieldLink RX0 27 "WinderLadders$Clock" "daysSinceWound" "I", Cond.fieldLink RX0 30 "WinderLadders$Clock" "timesWound" "I", Cond.fieldLink RX0 33 "WinderLadders$Clock" "goes" "Z", Cond.methodLink RX5 53 yX4_replaceSetting, Cond.instanceMethod yX4_replaceSetting, Cond.selects RX4 yX4_replaceSetting yX4_replaceSetting, Cond.code yX4_replaceSetting cX4_replaceSetting 4 (some .int), Cond.static yX5_isWithin, Cond.code yX5_isWithin cX5_isWithin 3 (some .boolean), Cond.methodLink RX5 57 yX5_keptIfDone, Cond.instanceMethod yX5_keptIfDone, Cond.selects RX5 yX5_keptIfDone yX5_keptIfDone, Cond.code yX5_keptIfDone cX5_keptIfDone 2 (some .int)]
def wsL_law_r6 : List Cond := [Cond.methodLink RX5 217 yX1_keepPrepared, Cond.instanceMethod yX1_keepPrepared, Cond.selects RX1 yX1_keepPrepared yX1_keepPrepared, Cond.code yX1_keepPrepared cX1_keepPrepared 1 none, Cond.methodLink RX1 26 yX1_dropOldest, Cond.instanceMethod yX1_dropOldest, Cond.selects RX1 yX1_dropOldest yX1_dropOldest, Cond.code yX1_dropOldest cX1_dropOldest 3 none, Cond.methodLink RL 17 yX6_set, Cond.instanceMethod yX6_set, Cond.selects RX6 yX6_set yX6_set, Cond.code yX6_set cX6_set 5 (some .int), Cond.methodLink RX6 35 yX6_in, Cond.static yX6_in, Cond.code yX6_in cX6_in 3 (some .boolean), Cond.methodLink RX6 85 yX6_know, Cond.instanceMethod yX6_know, Cond.selects RX6 yX6_know yX6_know, Cond.code yX6_know cX6_know 2 none, Cond.fieldLink RX6 39 "WinderLaddersModel" "known" "I", Cond.methodLink RL 18 yX5_hang, Cond.instanceMethod yX5_hang, Cond.selects RX5 yX5_hang yX5_hang, Cond.code yX5_hang cX5_hang 4 (some .int)]
def wsL_law_r7 : List Cond := [Cond.methodLink RX5 61 yX4_addClock, Cond.instanceMethod yX4_addClock, Cond.selects RX4 yX4_addClock yX4_addClock, Cond.code yX4_addClock cX4_addClock 4 (some .int), Cond.methodLink RX4 58 yX0_begin, Cond.instanceMethod yX0_begin, Cond.selects RX0 yX0_begin yX0_begin, Cond.code yX0_begin cX0_begin 4 none, Cond.methodLink RL 22 yX6_hang, Cond.instanceMethod yX6_hang, Cond.selects RX6 yX6_hang yX6_hang, Cond.code yX6_hang cX6_hang 5 (some .int), Cond.methodLink RX6 88 yX6_hangFault, Cond.instanceMethod yX6_hangFault, Cond.selects RX6 yX6_hangFault yX6_hangFault, Cond.code yX6_hangFault cX6_hangFault 4 (some .int), Cond.methodLink RX6 92 yX6_hangs, Cond.instanceMethod yX6_hangs, Cond.selects RX6 yX6_hangs yX6_hangs, Cond.code yX6_hangs cX6_hangs 6 (some .int), Cond.methodLink RX6 43 yX6_at, Cond.static yX6_at, Cond.code yX6_at cX6_at 2 (some .int), Cond.methodLink RL 23 yX5_ladder]
def wsL_law_r8 : List Cond := [Cond.instanceMethod yX5_ladder, Cond.selects RX5 yX5_ladder yX5_ladder, Cond.code yX5_ladder cX5_ladder 2 (some .int), Cond.methodLink RX5 65 yX4_addLadder, Cond.instanceMethod yX4_addLadder, Cond.selects RX4 yX4_addLadder yX4_addLadder, Cond.code yX4_addLadder cX4_addLadder 2 (some .int), Cond.methodLink RL 27 yX6_ladder, Cond.instanceMethod yX6_ladder, Cond.selects RX6 yX6_ladder yX6_ladder, Cond.code yX6_ladder cX6_ladder 3 (some .int), Cond.methodLink RX6 95 yX6_ladderFault, Cond.instanceMethod yX6_ladderFault, Cond.selects RX6 yX6_ladderFault yX6_ladderFault, Cond.code yX6_ladderFault cX6_ladderFault 2 (some .int), Cond.methodLink RX6 98 yX6_buys, Cond.instanceMethod yX6_buys, Cond.selects RX6 yX6_buys yX6_buys, Cond.code yX6_buys cX6_buys 2 (some .int), Cond.methodLink RL 28 yX5_screw, Cond.instanceMethod yX5_screw, Cond.selects RX5 yX5_screw yX5_screw, Cond.code yX5_screw cX5_screw 3 (some .int), Cond.methodLink RX5 68 yX4_turnScrew]
def wsL_law_r9 : List Cond := [Cond.instanceMethod yX4_turnScrew, Cond.selects RX4 yX4_turnScrew yX4_turnScrew, Cond.code yX4_turnScrew cX4_turnScrew 4 (some .int), Cond.fieldLink RX4 66 "WinderLadders$Clock" "screw" "I", Cond.methodLink RX4 62 yX4_hasClock, Cond.instanceMethod yX4_hasClock, Cond.selects RX4 yX4_hasClock yX4_hasClock, Cond.code yX4_hasClock cX4_hasClock 2 (some .boolean), Cond.methodLink RL 31 yX6_screw, Cond.instanceMethod yX6_screw, Cond.selects RX6 yX6_screw yX6_screw, Cond.code yX6_screw cX6_screw 4 (some .int), Cond.methodLink RX6 101 yX6_isClock, Cond.instanceMethod yX6_isClock, Cond.selects RX6 yX6_isClock yX6_isClock, Cond.code yX6_isClock cX6_isClock 2 (some .boolean), Cond.methodLink RL 32 yX5_round, Cond.instanceMethod yX5_round, Cond.selects RX5 yX5_round yX5_round, Cond.code yX5_round cX5_round 3 (some .int), Cond.methodLink RX5 71 yX5_chooseRow, Cond.instanceMethod yX5_chooseRow, Cond.selects RX5 yX5_chooseRow yX5_chooseRow, Cond.code yX5_chooseRow cX5_chooseRow 3 (some .int)]
def wsL_law_r10 : List Cond := [Cond.fieldLink RX5 144 "WinderLadders$State" "clockCount" "I", Cond.fieldLink RX5 226 "WinderLadders$Row" "length" "I", Cond.methodLink RX5 220 yX3_clear, Cond.instanceMethod yX3_clear, Cond.selects RX3 yX3_clear yX3_clear, Cond.code yX3_clear cX3_clear 1 none, Cond.fieldLink RX3 15 "WinderLadders$Row" "length" "I", Cond.methodLink RX5 223 yX3_add, Cond.instanceMethod yX3_add, Cond.selects RX3 yX3_add yX3_add, Cond.code yX3_add cX3_add 2 (some .boolean), Cond.methodLink RX5 74 yX4_walkBeat, Cond.instanceMethod yX4_walkBeat, Cond.selects RX4 yX4_walkBeat yX4_walkBeat, Cond.code yX4_walkBeat cX4_walkBeat 5 (some .int), Cond.fieldLink RX4 88 "WinderLadders$Row" "length" "I", Cond.methodLink RX4 84 yX4_minutesOf, Cond.instanceMethod yX4_minutesOf, Cond.selects RX4 yX4_minutesOf yX4_minutesOf, Cond.code yX4_minutesOf cX4_minutesOf 10 (some .int), Cond.fieldLink RX4 104 "WinderLadders$Clock" "house" "I", Cond.methodLink RX4 107 Lib.Math.abs.name, Cond.static Lib.Math.abs.name, Cond.initialized "java/lang/Math"]
def wsL_law_r11 : List Cond := [Cond.code Lib.Math.abs.name Lib.Math.abs.code 1 (some .int), Cond.methodLink RX4 93 yX3_at, Cond.instanceMethod yX3_at, Cond.selects RX3 yX3_at yX3_at, Cond.code yX3_at cX3_at 2 (some .int), Cond.methodLink RX4 112 yX4_ladderNeeded, Cond.instanceMethod yX4_ladderNeeded, Cond.selects RX4 yX4_ladderNeeded yX4_ladderNeeded, Cond.code yX4_ladderNeeded cX4_ladderNeeded 5 (some .int), Cond.fieldLink RX4 116 "WinderLadders$Clock" "rungs" "I", Cond.methodLink RX4 97 yX4_canBeWound, Cond.instanceMethod yX4_canBeWound, Cond.selects RX4 yX4_canBeWound yX4_canBeWound, Cond.code yX4_canBeWound cX4_canBeWound 2 (some .boolean), Cond.methodLink RX4 101 yX0_windAndSet, Cond.instanceMethod yX0_windAndSet, Cond.selects RX0 yX0_windAndSet yX0_windAndSet, Cond.code yX0_windAndSet cX0_windAndSet 2 none, Cond.methodLink RX0 48 yX0_isOffBeyond, Cond.instanceMethod yX0_isOffBeyond, Cond.selects RX0 yX0_isOffBeyond yX0_isOffBeyond, Cond.code yX0_isOffBeyond cX0_isOffBeyond 2 (some .boolean), Cond.methodLink RX0 37 Lib.Math.abs.name, Cond.methodLink RX0 52 yX0_turnByRule]
def wsL_law_r12 : List Cond := [Cond.instanceMethod yX0_turnByRule, Cond.selects RX0 yX0_turnByRule yX0_turnByRule, Cond.code yX0_turnByRule cX0_turnByRule 2 none, Cond.methodLink RX0 43 yX0_driftWithScrew, Cond.instanceMethod yX0_driftWithScrew, Cond.selects RX0 yX0_driftWithScrew yX0_driftWithScrew, Cond.code yX0_driftWithScrew cX0_driftWithScrew 1 (some .int), Cond.methodLink RL 35 yX6_round, Cond.instanceMethod yX6_round, Cond.selects RX6 yX6_round yX6_round, Cond.code yX6_round cX6_round 3 (some .int), Cond.methodLink RX6 104 yX6_layOut, Cond.instanceMethod yX6_layOut, Cond.selects RX6 yX6_layOut yX6_layOut, Cond.code yX6_layOut cX6_layOut 5 (some .int), Cond.fieldLink RX6 58 "WinderLaddersModel" "inRow" "I", Cond.methodLink RX6 108 yX6_goes, Cond.instanceMethod yX6_goes, Cond.selects RX6 yX6_goes yX6_goes, Cond.code yX6_goes cX6_goes 3 (some .int), Cond.methodLink RX6 68 yX6_minutes, Cond.instanceMethod yX6_minutes, Cond.selects RX6 yX6_minutes yX6_minutes, Cond.code yX6_minutes cX6_minutes 8 (some .int)]
def wsL_law_r13 : List Cond := [Cond.methodLink RX6 51 yX6_ladderOf, Cond.instanceMethod yX6_ladderOf, Cond.selects RX6 yX6_ladderOf yX6_ladderOf, Cond.code yX6_ladderOf cX6_ladderOf 5 (some .int), Cond.methodLink RX6 61 yX6_way, Cond.instanceMethod yX6_way, Cond.selects RX6 yX6_way yX6_way, Cond.code yX6_way cX6_way 3 (some .int), Cond.methodLink RX6 47 yX6_size, Cond.static yX6_size, Cond.code yX6_size cX6_size 1 (some .int), Cond.methodLink RX6 64 yX6_canWind, Cond.instanceMethod yX6_canWind, Cond.selects RX6 yX6_canWind yX6_canWind, Cond.code yX6_canWind cX6_canWind 2 (some .boolean), Cond.methodLink RX6 72 yX6_work, Cond.instanceMethod yX6_work, Cond.selects RX6 yX6_work yX6_work, Cond.code yX6_work cX6_work 4 none, Cond.methodLink RX6 54 yX6_rate, Cond.instanceMethod yX6_rate, Cond.selects RX6 yX6_rate yX6_rate, Cond.code yX6_rate cX6_rate 2 (some .int), Cond.methodLink RL 36 yX5_pass]
def wsL_law_r14 : List Cond := [Cond.instanceMethod yX5_pass, Cond.selects RX5 yX5_pass yX5_pass, Cond.code yX5_pass cX5_pass 2 (some .int), Cond.methodLink RX5 78 yX4_passDays, Cond.instanceMethod yX4_passDays, Cond.selects RX4 yX4_passDays yX4_passDays, Cond.code yX4_passDays cX4_passDays 4 (some .int), Cond.methodLink RX4 69 yX0_passDay, Cond.instanceMethod yX0_passDay, Cond.selects RX0 yX0_passDay yX0_passDay, Cond.code yX0_passDay cX0_passDay 2 none, Cond.constant RX0 47 (43200), Cond.methodLink RX4 73 yX4_numberThatGo, Cond.instanceMethod yX4_numberThatGo, Cond.selects RX4 yX4_numberThatGo yX4_numberThatGo, Cond.code yX4_numberThatGo cX4_numberThatGo 3 (some .int), Cond.fieldLink RX4 77 "WinderLadders$Clock" "goes" "Z", Cond.methodLink RL 39 yX6_pass, Cond.instanceMethod yX6_pass, Cond.selects RX6 yX6_pass yX6_pass, Cond.code yX6_pass cX6_pass 3 (some .int), Cond.methodLink RX6 111 yX6_passFault, Cond.instanceMethod yX6_passFault, Cond.selects RX6 yX6_passFault yX6_passFault]
def wsL_law_r15 : List Cond := [Cond.code yX6_passFault cX6_passFault 2 (some .int), Cond.methodLink RX6 114 yX6_passes, Cond.instanceMethod yX6_passes, Cond.selects RX6 yX6_passes yX6_passes, Cond.code yX6_passes cX6_passes 4 (some .int), Cond.methodLink RX6 76 yX6_day, Cond.instanceMethod yX6_day, Cond.selects RX6 yX6_day yX6_day, Cond.code yX6_day cX6_day 2 none, Cond.constant RX6 57 (43200), Cond.methodLink RX6 79 yX6_still, Cond.instanceMethod yX6_still, Cond.selects RX6 yX6_still yX6_still, Cond.code yX6_still cX6_still 3 (some .int), Cond.methodLink RX6 82 yX6_many, Cond.static yX6_many, Cond.code yX6_many cX6_many 3 (some .int), Cond.methodLink RL 40 yX5_change, Cond.instanceMethod yX5_change, Cond.selects RX5 yX5_change yX5_change, Cond.code yX5_change cX5_change 2 (some .int), Cond.methodLink RX5 81 yX4_changeClocks, Cond.instanceMethod yX4_changeClocks, Cond.selects RX4 yX4_changeClocks yX4_changeClocks]
def wsL_law_r16 : List Cond := [Cond.code yX4_changeClocks cX4_changeClocks 4 (some .int), Cond.fieldLink RX4 81 "WinderLadders$Clock" "off" "I", Cond.methodLink RL 43 yX6_change, Cond.instanceMethod yX6_change, Cond.selects RX6 yX6_change yX6_change, Cond.code yX6_change cX6_change 2 (some .int), Cond.methodLink RX6 117 yX6_changes, Cond.instanceMethod yX6_changes, Cond.selects RX6 yX6_changes yX6_changes, Cond.code yX6_changes cX6_changes 3 (some .int), Cond.methodLink RL 44 yX5_of, Cond.instanceMethod yX5_of, Cond.selects RX5 yX5_of yX5_of, Cond.code yX5_of cX5_of 4 (some .int), Cond.fieldLink RX5 88 "WinderLadders$State" "clocks" "[LWinderLadders$Clock;", Cond.fieldLink RX5 92 "WinderLadders$Clock" "house" "I", Cond.fieldLink RX5 98 "WinderLadders$Clock" "rungs" "I", Cond.fieldLink RX5 101 "WinderLadders$Clock" "drift" "I", Cond.fieldLink RX5 104 "WinderLadders$Clock" "screw" "I", Cond.fieldLink RX5 107 "WinderLadders$Clock" "off" "I", Cond.constant RX5 110 (1000000000), Cond.fieldLink RX5 111 "WinderLadders$Clock" "daysSinceWound" "I", Cond.fieldLink RX5 114 "WinderLadders$Clock" "goes" "Z", Cond.fieldLink RX5 118 "WinderLadders$State" "settings" "[I"]
def wsL_law_r17 : List Cond := [Cond.fieldLink RX5 132 "WinderLadders$Clock" "timesWound" "I", Cond.methodLink RX5 84 yX4_hasClock, Cond.methodLink RX5 121 yX0_isOffBeyond, Cond.methodLink RX5 124 yX4_ladderNeeded, Cond.methodLink RX5 128 yX4_canBeWound, Cond.methodLink RL 47 yX6_of, Cond.instanceMethod yX6_of, Cond.selects RX6 yX6_of yX6_of, Cond.code yX6_of cX6_of 3 (some .int), Cond.constant RX6 120 (1000000000), Cond.methodLink RX6 121 yX6_isOff, Cond.instanceMethod yX6_isOff, Cond.selects RX6 yX6_isOff yX6_isOff, Cond.code yX6_isOff cX6_isOff 2 (some .boolean), Cond.methodLink RL 48 yX5_ofLadder, Cond.instanceMethod yX5_ofLadder, Cond.selects RX5 yX5_ofLadder yX5_ofLadder, Cond.code yX5_ofLadder cX5_ofLadder 2 (some .int), Cond.fieldLink RX5 138 "WinderLadders$State" "ladders" "[I", Cond.methodLink RX5 135 yX4_hasLadder, Cond.instanceMethod yX4_hasLadder, Cond.selects RX4 yX4_hasLadder yX4_hasLadder, Cond.code yX4_hasLadder cX4_hasLadder 2 (some .boolean), Cond.methodLink RL 51 yX6_ofLadder]
def wsL_law_r18 : List Cond := [Cond.instanceMethod yX6_ofLadder, Cond.selects RX6 yX6_ofLadder yX6_ofLadder, Cond.code yX6_ofLadder cX6_ofLadder 2 (some .int), Cond.methodLink RL 52 yX5_count, Cond.instanceMethod yX5_count, Cond.selects RX5 yX5_count yX5_count, Cond.code yX5_count cX5_count 2 (some .int), Cond.fieldLink RX5 141 "WinderLadders$State" "days" "I", Cond.fieldLink RX5 147 "WinderLadders$State" "ladderCount" "I", Cond.fieldLink RX5 160 "WinderLadders$State" "minutes" "I", Cond.fieldLink RX5 166 "WinderLadders$Pad" "length" "I", Cond.fieldLink RX5 169 "WinderLadders$History" "depth" "I", Cond.methodLink RX5 150 yX4_setOfStill, Cond.instanceMethod yX4_setOfStill, Cond.selects RX4 yX4_setOfStill yX4_setOfStill, Cond.code yX4_setOfStill cX4_setOfStill 3 (some .int), Cond.methodLink RX5 154 yX4_numberOffBeyondTold, Cond.instanceMethod yX4_numberOffBeyondTold, Cond.selects RX4 yX4_numberOffBeyondTold yX4_numberOffBeyondTold, Cond.code yX4_numberOffBeyondTold cX4_numberOffBeyondTold 3 (some .int), Cond.methodLink RX4 119 yX0_isOffBeyond, Cond.methodLink RX5 157 yX4_numberThatCannotBeWound, Cond.instanceMethod yX4_numberThatCannotBeWound, Cond.selects RX4 yX4_numberThatCannotBeWound yX4_numberThatCannotBeWound]
def wsL_law_r19 : List Cond := [Cond.code yX4_numberThatCannotBeWound cX4_numberThatCannotBeWound 3 (some .int), Cond.methodLink RX5 163 yX4_timesWoundInAll, Cond.instanceMethod yX4_timesWoundInAll, Cond.selects RX4 yX4_timesWoundInAll yX4_timesWoundInAll, Cond.code yX4_timesWoundInAll cX4_timesWoundInAll 3 (some .int), Cond.fieldLink RX4 122 "WinderLadders$Clock" "timesWound" "I", Cond.methodLink RL 55 yX6_count, Cond.instanceMethod yX6_count, Cond.selects RX6 yX6_count yX6_count, Cond.code yX6_count cX6_count 2 (some .int), Cond.fieldLink RX6 127 "WinderLaddersModel" "length" "I", Cond.methodLink RX6 124 yX6_sum, Cond.instanceMethod yX6_sum, Cond.selects RX6 yX6_sum yX6_sum, Cond.code yX6_sum cX6_sum 4 (some .int), Cond.methodLink RL 56 yX5_takes, Cond.instanceMethod yX5_takes, Cond.selects RX5 yX5_takes yX5_takes, Cond.code yX5_takes cX5_takes 3 (some .int), Cond.methodLink RX5 172 yX4_minutesOf, Cond.methodLink RL 59 yX6_takes, Cond.instanceMethod yX6_takes, Cond.selects RX6 yX6_takes yX6_takes, Cond.code yX6_takes cX6_takes 3 (some .int)]
def wsL_law_r20 : List Cond := [Cond.methodLink RL 60 yX5_lasts, Cond.instanceMethod yX5_lasts, Cond.selects RX5 yX5_lasts yX5_lasts, Cond.code yX5_lasts cX5_lasts 2 (some .int), Cond.methodLink RX5 175 yX4_daysUntilOff, Cond.instanceMethod yX4_daysUntilOff, Cond.selects RX4 yX4_daysUntilOff yX4_daysUntilOff, Cond.code yX4_daysUntilOff cX4_daysUntilOff 2 (some .int), Cond.methodLink RX4 129 yX0_daysUntilOff, Cond.instanceMethod yX0_daysUntilOff, Cond.selects RX0 yX0_daysUntilOff yX0_daysUntilOff, Cond.code yX0_daysUntilOff cX0_daysUntilOff 5 (some .int), Cond.methodLink RX0 55 Lib.Math.max.name, Cond.static Lib.Math.max.name, Cond.code Lib.Math.max.name Lib.Math.max.code 2 (some .int), Cond.methodLink RL 63 yX6_lasts, Cond.instanceMethod yX6_lasts, Cond.selects RX6 yX6_lasts yX6_lasts, Cond.code yX6_lasts cX6_lasts 4 (some .int), Cond.methodLink RX6 130 yX6_keepClock, Cond.instanceMethod yX6_keepClock, Cond.selects RX6 yX6_keepClock yX6_keepClock, Cond.code yX6_keepClock cX6_keepClock 3 none, Cond.methodLink RL 64 yX5_needs]
def wsL_law_r21 : List Cond := [Cond.instanceMethod yX5_needs, Cond.selects RX5 yX5_needs yX5_needs, Cond.code yX5_needs cX5_needs 3 (some .int), Cond.methodLink RX5 178 yX4_tellDaysUntilOff, Cond.instanceMethod yX4_tellDaysUntilOff, Cond.selects RX4 yX4_tellDaysUntilOff yX4_tellDaysUntilOff, Cond.code yX4_tellDaysUntilOff cX4_tellDaysUntilOff 3 none, Cond.methodLink RX4 132 yX4_daysUntilOff, Cond.methodLink RX5 182 yX4_rankOf, Cond.instanceMethod yX4_rankOf, Cond.selects RX4 yX4_rankOf yX4_rankOf, Cond.code yX4_rankOf cX4_rankOf 5 (some .int), Cond.methodLink RL 67 yX6_needs, Cond.instanceMethod yX6_needs, Cond.selects RX6 yX6_needs yX6_needs, Cond.code yX6_needs cX6_needs 5 (some .int), Cond.methodLink RX6 133 yX6_lasts, Cond.methodLink RL 68 yX5_ladderFor, Cond.instanceMethod yX5_ladderFor, Cond.selects RX5 yX5_ladderFor yX5_ladderFor, Cond.code yX5_ladderFor cX5_ladderFor 2 (some .int), Cond.methodLink RX5 186 yX4_rungsOutOfReach, Cond.instanceMethod yX4_rungsOutOfReach, Cond.selects RX4 yX4_rungsOutOfReach yX4_rungsOutOfReach]
def wsL_law_r22 : List Cond := [Cond.code yX4_rungsOutOfReach cX4_rungsOutOfReach 3 (some .int), Cond.methodLink RX4 125 Lib.Math.max.name, Cond.methodLink RL 72 yX6_ladderFor, Cond.instanceMethod yX6_ladderFor, Cond.selects RX6 yX6_ladderFor yX6_ladderFor, Cond.code yX6_ladderFor cX6_ladderFor 3 (some .int), Cond.methodLink RL 73 yX5_wayRound, Cond.instanceMethod yX5_wayRound, Cond.selects RX5 yX5_wayRound yX5_wayRound, Cond.code yX5_wayRound cX5_wayRound 5 (some .int), Cond.methodLink RX5 189 yX3_turnRound, Cond.instanceMethod yX3_turnRound, Cond.selects RX3 yX3_turnRound yX3_turnRound, Cond.code yX3_turnRound cX3_turnRound 3 none, Cond.methodLink RL 76 yX6_wayRound, Cond.instanceMethod yX6_wayRound, Cond.selects RX6 yX6_wayRound yX6_wayRound, Cond.code yX6_wayRound cX6_wayRound 6 (some .int), Cond.methodLink RL 79 yX5_put, Cond.instanceMethod yX5_put, Cond.selects RX5 yX5_put yX5_put, Cond.code yX5_put cX5_put 5 (some .int), Cond.methodLink RX5 192 yX5_signsIn, Cond.static yX5_signsIn]
def wsL_law_r23 : List Cond := [Cond.code yX5_signsIn cX5_signsIn 4 (some .int), Cond.methodLink RX5 196 yX5_codeAt, Cond.static yX5_codeAt, Cond.code yX5_codeAt cX5_codeAt 3 (some .int), Cond.methodLink RX5 200 yX2_append, Cond.instanceMethod yX2_append, Cond.selects RX2 yX2_append yX2_append, Cond.code yX2_append cX2_append 2 none, Cond.fieldLink RX2 22 "WinderLadders$Pad" "length" "I", Cond.methodLink RL 83 yX6_put, Cond.instanceMethod yX6_put, Cond.selects RX6 yX6_put yX6_put, Cond.code yX6_put cX6_put 8 (some .int), Cond.constantLong RX6 136 (255), Cond.methodLink RL 84 yX5_wipe, Cond.instanceMethod yX5_wipe, Cond.selects RX5 yX5_wipe yX5_wipe, Cond.code yX5_wipe cX5_wipe 2 (some .int), Cond.methodLink RL 87 yX6_wipe, Cond.instanceMethod yX6_wipe, Cond.selects RX6 yX6_wipe yX6_wipe, Cond.code yX6_wipe cX6_wipe 2 (some .int), Cond.methodLink RL 88 yX5_fault, Cond.instanceMethod yX5_fault]
def wsL_law_r24 : List Cond := [Cond.selects RX5 yX5_fault yX5_fault, Cond.code yX5_fault cX5_fault 1 (some .int), Cond.methodLink RX5 204 yX2_findFault, Cond.instanceMethod yX2_findFault, Cond.selects RX2 yX2_findFault yX2_findFault, Cond.code yX2_findFault cX2_findFault 2 (some .int), Cond.fieldLink RX2 33 "WinderLadders$Pad" "place" "I", Cond.methodLink RX2 26 yX2_goToStart, Cond.instanceMethod yX2_goToStart, Cond.selects RX2 yX2_goToStart yX2_goToStart, Cond.code yX2_goToStart cX2_goToStart 1 none, Cond.methodLink RX2 29 yX2_readNext, Cond.instanceMethod yX2_readNext, Cond.selects RX2 yX2_readNext yX2_readNext, Cond.code yX2_readNext cX2_readNext 1 (some .boolean), Cond.fieldLink RX2 47 "WinderLadders$Pad" "kind" "I", Cond.methodLink RX2 36 yX2_take, Cond.instanceMethod yX2_take, Cond.selects RX2 yX2_take yX2_take, Cond.code yX2_take cX2_take 2 (some .boolean), Cond.methodLink RX2 43 yX2_here, Cond.instanceMethod yX2_here, Cond.selects RX2 yX2_here yX2_here, Cond.code yX2_here cX2_here 1 (some .char)]
def wsL_law_r25 : List Cond := [Cond.methodLink RX2 40 yX3_clear, Cond.methodLink RX2 50 yX2_readNumber, Cond.instanceMethod yX2_readNumber, Cond.selects RX2 yX2_readNumber yX2_readNumber, Cond.code yX2_readNumber cX2_readNumber 3 (some .boolean), Cond.methodLink RX2 60 yX2_isDigit, Cond.static yX2_isDigit, Cond.code yX2_isDigit cX2_isDigit 1 (some .boolean), Cond.methodLink RX2 63 yX3_add, Cond.methodLink RX2 54 yX2_readValue, Cond.instanceMethod yX2_readValue, Cond.selects RX2 yX2_readValue yX2_readValue, Cond.code yX2_readValue cX2_readValue 1 (some .boolean), Cond.methodLink RX2 57 yX2_readNumbers, Cond.instanceMethod yX2_readNumbers, Cond.selects RX2 yX2_readNumbers yX2_readNumbers, Cond.code yX2_readNumbers cX2_readNumbers 2 (some .boolean), Cond.methodLink RL 91 yX6_fault, Cond.instanceMethod yX6_fault, Cond.selects RX6 yX6_fault yX6_fault, Cond.code yX6_fault cX6_fault 2 (some .int), Cond.fieldLink RX6 141 "WinderLaddersModel" "isWrong" "Z", Cond.fieldLink RX6 138 "WinderLaddersModel" "place" "I", Cond.methodLink RX6 177 yX6_go]
def wsL_law_r26 : List Cond := [Cond.instanceMethod yX6_go, Cond.selects RX6 yX6_go yX6_go, Cond.code yX6_go cX6_go 6 (some .int), Cond.methodLink RX6 170 yX6_order, Cond.instanceMethod yX6_order, Cond.selects RX6 yX6_order yX6_order, Cond.code yX6_order cX6_order 5 none, Cond.fieldLink RX6 152 "WinderLaddersModel" "letter" "I", Cond.fieldLink RX6 158 "WinderLaddersModel" "one" "I", Cond.fieldLink RX6 161 "WinderLaddersModel" "two" "I", Cond.fieldLink RX6 164 "WinderLaddersModel" "three" "I", Cond.methodLink RX6 155 yX6_number, Cond.instanceMethod yX6_number, Cond.selects RX6 yX6_number yX6_number, Cond.code yX6_number cX6_number 2 (some .int), Cond.methodLink RX6 145 yX6_sign, Cond.instanceMethod yX6_sign, Cond.selects RX6 yX6_sign yX6_sign, Cond.code yX6_sign cX6_sign 4 (some .int), Cond.methodLink RX6 148 yX6_isNext, Cond.instanceMethod yX6_isNext, Cond.selects RX6 yX6_isNext yX6_isNext, Cond.code yX6_isNext cX6_isNext 3 (some .boolean), Cond.methodLink RX6 173 yX6_does]
def wsL_law_r27 : List Cond := [Cond.instanceMethod yX6_does, Cond.selects RX6 yX6_does yX6_does, Cond.code yX6_does cX6_does 4 (some .boolean), Cond.methodLink RX6 167 yX6_rowFault, Cond.instanceMethod yX6_rowFault, Cond.selects RX6 yX6_rowFault yX6_rowFault, Cond.code yX6_rowFault cX6_rowFault 3 (some .int), Cond.methodLink RL 92 yX5_carryOut, Cond.instanceMethod yX5_carryOut, Cond.selects RX5 yX5_carryOut yX5_carryOut, Cond.code yX5_carryOut cX5_carryOut 2 (some .int), Cond.methodLink RX5 207 yX5_carryOrdersOut, Cond.instanceMethod yX5_carryOrdersOut, Cond.selects RX5 yX5_carryOrdersOut yX5_carryOrdersOut, Cond.code yX5_carryOrdersOut cX5_carryOrdersOut 2 (some .int), Cond.methodLink RX5 227 yX2_goToStart, Cond.methodLink RX5 230 yX2_readNext, Cond.methodLink RX5 234 yX5_carryOneOut, Cond.instanceMethod yX5_carryOneOut, Cond.selects RX5 yX5_carryOneOut yX5_carryOneOut, Cond.code yX5_carryOneOut cX5_carryOneOut 2 (some .int), Cond.fieldLink RX5 237 "WinderLadders$Pad" "numbers" "LWinderLadders$Row;", Cond.fieldLink RX5 240 "WinderLadders$Pad" "kind" "I", Cond.methodLink RX5 243 yX3_at]
def wsL_law_r28 : List Cond := [Cond.methodLink RL 95 yX6_carryOut, Cond.instanceMethod yX6_carryOut, Cond.selects RX6 yX6_carryOut yX6_carryOut, Cond.code yX6_carryOut cX6_carryOut 3 (some .int), Cond.methodLink RL 96 yX5_undo, Cond.instanceMethod yX5_undo, Cond.selects RX5 yX5_undo yX5_undo, Cond.code yX5_undo cX5_undo 1 (some .int), Cond.methodLink RX5 210 yX1_takeBack, Cond.instanceMethod yX1_takeBack, Cond.selects RX1 yX1_takeBack yX1_takeBack, Cond.code yX1_takeBack cX1_takeBack 2 (some .boolean), Cond.methodLink RL 99 yX6_undo, Cond.instanceMethod yX6_undo, Cond.selects RX6 yX6_undo yX6_undo, Cond.code yX6_undo cX6_undo 2 (some .int), Cond.methodLink RL 100 yX5_save, Cond.instanceMethod yX5_save, Cond.selects RX5 yX5_save yX5_save, Cond.code yX5_save cX5_save 2 (some .int), Cond.methodLink RX5 214 yX4_copyFrom, Cond.methodLink RL 103 yX6_save, Cond.instanceMethod yX6_save, Cond.selects RX6 yX6_save yX6_save]
def wsL_law_r29 : List Cond := [Cond.code yX6_save cX6_save 3 (some .int), Cond.methodLink RL 104 yX5_restore, Cond.instanceMethod yX5_restore, Cond.selects RX5 yX5_restore yX5_restore, Cond.code yX5_restore cX5_restore 2 (some .int), Cond.methodLink RL 107 yX6_restore, Cond.instanceMethod yX6_restore, Cond.selects RX6 yX6_restore yX6_restore, Cond.code yX6_restore cX6_restore 3 (some .int)]
def wsL_law : List Cond := (wsL_law_r1 ++ (wsL_law_r2 ++ (wsL_law_r3 ++ (wsL_law_r4 ++ (wsL_law_r5 ++ (wsL_law_r6 ++ (wsL_law_r7 ++ (wsL_law_r8 ++ (wsL_law_r9 ++ (wsL_law_r10 ++ (wsL_law_r11 ++ (wsL_law_r12 ++ (wsL_law_r13 ++ (wsL_law_r14 ++ (wsL_law_r15 ++ (wsL_law_r16 ++ (wsL_law_r17 ++ (wsL_law_r18 ++ (wsL_law_r19 ++ (wsL_law_r20 ++ (wsL_law_r21 ++ (wsL_law_r22 ++ (wsL_law_r23 ++ (wsL_law_r24 ++ (wsL_law_r25 ++ (wsL_law_r26 ++ (wsL_law_r27 ++ (wsL_law_r28 ++ wsL_law_r29)))))))))))))))))))))))))))) ++ wsX50 ++ wsX60 ++ wsX40 ++ wsX10 ++ wsX20 ++ wsX30 ++ wsX00 ++ ([] : List Cond)
theorem dL_law_679 : decode cL_law 679 = .ok (.ireturn, 1) := by decide +kernel
end
section
abbrev vwCl : List vw_C := [(RX0, TX0, 8), (RX1, TX1, 2), (RX2, TX2, 5), (RX3, TX3, 2), (RX4, TX4, 7), (RX5, TX5, 7), (RX6, TX6, 17)]
/-! the worlds: the model's nine cells by one table of numbers M (M k j: the k-th field, place j) -/
abbrev MS : Type := Nat → Nat → Int32
def mset (M : MS) (k j : Nat) (x : Int32) : MS := fun a b => if a = k ∧ b = j then x else M a b
theorem mset_row (M : MS) (k j : Nat) (x : Int32) : mset M k j x k = upd (M k) j x := by
  funext b; simp [mset, upd]
theorem mset_ne (M : MS) {k a : Nat} (h : a ≠ k) (j : Nat) (x : Int32) : mset M k j x a = M a := by
  funext b; simp [mset, h]
theorem mset_eq (M : MS) (k j : Nat) (x : Int32) : mset M k j x k j = x := by simp [mset]
theorem mset_nj (M : MS) {k j b : Nat} (h : b ≠ j) (x : Int32) (a : Nat) : mset M k j x a b = M a b := by simp [mset, h]
theorem mset_nk (M : MS) {k a : Nat} (h : a ≠ k) (j b : Nat) (x : Int32) : mset M k j x a b = M a b := by simp [mset, h]
abbrev tysW (g : Nat → ClassId) : List (ClassId × FieldType) := [(g 0, .int), (g 1, .char), (g 2, .boolean), (g 3, .object "WinderLadders$Clock"), (g 4, .object "WinderLadders$State")]
def mFs (q : Nat → Nat) (M : MS) : List Value := [.ref (q 1), .ref (q 2), .ref (q 3), .int (M 3 0), .ref (q 4), .ref (q 5), .ref (q 6), .int (M 7 0), .ref (q 7), .int (M 9 0), .ref (q 8), .int (M 11 0), .int (M 12 0), .int (M 13 0), .int (M 14 0), .int (M 15 0), .int (M 16 0)]
def mW (g : Nat → ClassId) (q : Nat → Nat) (M : MS) : va_W := [(q 0, .inr (6, mFs q M)), (q 1, .inl (g 0, 140, .inl (M 0))), (q 2, .inl (g 0, 140, .inl (M 1))), (q 3, .inl (g 0, 840, .inl (M 2))), (q 4, .inl (g 0, 280, .inl (M 4))), (q 5, .inl (g 2, 2, .inl (M 5))), (q 6, .inl (g 0, 80, .inl (M 6))), (q 7, .inl (g 0, 80, .inl (M 8))), (q 8, .inl (g 0, 16, .inl (M 10)))]
theorem arrV_congr (cA : ClassId) {N : Nat} {f h : Nat → Value} (e : ∀ j, j < N → f j = h j) : arrV cA N f = arrV cA N h := by
  unfold arrV
  rw [show (fun j : Fin N => f j.val) = (fun j : Fin N => h j.val) from funext fun j => e j.val j.isLt]
/-- an array's place in the world, its length, its kind, by its field -/
def mAr (k : Nat) : Nat := match k with | 0 => 1 | 1 => 2 | 2 => 3 | 4 => 4 | 5 => 5 | 6 => 6 | 8 => 7 | _ => 8
def mLen (k : Nat) : Nat := match k with | 0 => 140 | 1 => 140 | 2 => 840 | 4 => 280 | 5 => 2 | 6 => 80 | 8 => 80 | _ => 16
def mP (dd : va_G) (g : Nat → ClassId) (q : Nat → Nat) (H : Heap) (M : MS) : Prop := va_P dd vwCl (mW g q M) H
/-- the model's cells are apart, and of the kind A -/
def mA (A : Nat → Prop) (q : Nat → Nat) : Prop := (∀ i j : Nat, i < 9 → j < 9 → q i = q j → i = j) ∧ ∀ i : Nat, i < 9 → A (q i)
theorem mW_at (g : Nat → ClassId) (q : Nat → Nat) (M : MS) {i : Nat} {x : Nat × va_E} (h : (mW g q M)[i]? = some x) : i < 9 ∧ x.1 = q i := by
  have hi : i < 9 := (List.getElem?_eq_some_iff.mp h).1
  refine ⟨hi, ?_⟩
  rcases (show i = 0 ∨ i = 1 ∨ i = 2 ∨ i = 3 ∨ i = 4 ∨ i = 5 ∨ i = 6 ∨ i = 7 ∨ i = 8 by omega) with rfl | rfl | rfl | rfl | rfl | rfl | rfl | rfl | rfl <;> (cases h; rfl)
theorem mA.D {A : Nat → Prop} {q : Nat → Nat} (h : mA A q) (g : Nat → ClassId) (M : MS) : va_D A (mW g q M) := by
  refine ⟨fun i j x y hx hy e => ?_, fun k x hx => ?_⟩
  · obtain ⟨hi, ei⟩ := mW_at g q M hx
    obtain ⟨hj, ej⟩ := mW_at g q M hy
    exact h.1 i j hi hj (by rw [← ei, ← ej]; exact e)
  · obtain ⟨hi, ei⟩ := mW_at g q M hx
    rw [ei]; exact h.2 k hi
theorem mP_cell {dd : va_G} {g : Nat → ClassId} {q : Nat → Nat} {H : Heap} {M N : MS} (h : mP dd g q H M) (e : ∀ k, k < 17 → ∀ j, j < mLen k → M k j = N k j) (e0 : ∀ k, k < 17 → M k 0 = N k 0) : mP dd g q H N := by
  have hF : mFs q M = mFs q N := by
    simp only [mFs, e0 3 (by decide), e0 7 (by decide), e0 9 (by decide), e0 11 (by decide), e0 12 (by decide), e0 13 (by decide), e0 14 (by decide), e0 15 (by decide), e0 16 (by decide)]
  have hA : ∀ (k n : Nat) (cA : ClassId), k < 17 → n = mLen k → vp_cell cA (n, .inl (M k)) = vp_cell cA (n, .inl (N k)) := by
    intro k n cA hk hn
    rw [vp_cell_i, vp_cell_i]
    subst hn
    exact arrV_congr cA (fun j hj => by rw [e k hk j hj])
  intro i x hx
  have hi := (mW_at g q N hx).1
  have h2 := fun y hy => h i y hy
  rcases (show i = 0 ∨ i = 1 ∨ i = 2 ∨ i = 3 ∨ i = 4 ∨ i = 5 ∨ i = 6 ∨ i = 7 ∨ i = 8 by omega) with rfl | rfl | rfl | rfl | rfl | rfl | rfl | rfl | rfl <;> cases hx
  · have := h2 _ rfl
    rw [hF] at this
    exact this
  · exact (h2 _ rfl).trans (congrArg some (hA 0 _ _ (by decide) rfl))
  · exact (h2 _ rfl).trans (congrArg some (hA 1 _ _ (by decide) rfl))
  · exact (h2 _ rfl).trans (congrArg some (hA 2 _ _ (by decide) rfl))
  · exact (h2 _ rfl).trans (congrArg some (hA 4 _ _ (by decide) rfl))
  · exact (h2 _ rfl).trans (congrArg some (hA 5 _ _ (by decide) rfl))
  · exact (h2 _ rfl).trans (congrArg some (hA 6 _ _ (by decide) rfl))
  · exact (h2 _ rfl).trans (congrArg some (hA 8 _ _ (by decide) rfl))
  · exact (h2 _ rfl).trans (congrArg some (hA 10 _ _ (by decide) rfl))
theorem mW_put (g : Nat → ClassId) (q : Nat → Nat) (M : MS) (k : Nat) (hk : k ∈ [3, 7, 9, 11, 12, 13, 14, 15, 16]) (x : Int32) : (mW g q M).set 0 (q 0, .inr (6, (mFs q M).set k (.int x))) = mW g q (mset M k 0 x) := by
  simp only [List.mem_cons, List.not_mem_nil, or_false] at hk
  rcases hk with rfl | rfl | rfl | rfl | rfl | rfl | rfl | rfl | rfl <;> simp [mW, mFs, mset, mset_ne]
theorem mW_ast (g : Nat → ClassId) (q : Nat → Nat) (M : MS) (k : Nat) (hk : k ∈ [0, 1, 2, 4, 6, 8, 10]) (j : Nat) (x : Int32) : (mW g q M).set (mAr k) (q (mAr k), .inl (g 0, mLen k, .inl (upd (M k) j x))) = mW g q (mset M k j x) := by
  simp only [List.mem_cons, List.not_mem_nil, or_false] at hk
  rcases hk with rfl | rfl | rfl | rfl | rfl | rfl | rfl <;> simp [mW, mFs, mAr, mLen, mset_row, mset_ne, mset_nk]
theorem mW_zst (g : Nat → ClassId) (q : Nat → Nat) (M : MS) (j : Nat) (x : Int32) : (mW g q M).set 5 (q 5, .inl (g 2, 2, .inl (upd (M 5) j x))) = mW g q (mset M 5 j x) := by
  simp [mW, mFs, mset_row, mset_ne, mset_nk]
theorem mFs_len (q : Nat → Nat) (M : MS) : (mFs q M).length = 17 := rfl
/-- the walk's world: the picture, and what hasn't changed -/
def mI (dd : va_G) (g : Nat → ClassId) (q : Nat → Nat) (A : Nat → Prop) (H0 H : Heap) (locs : List Loc) (M : MS) : Prop := mP dd g q H M ∧ va_S A H0 H locs
def mPre (dd : va_G) (g : Nat → ClassId) (q : Nat → Nat) (M : MS) (av : List Value) : Array Value → State → Prop := va_Pc av (fun U => mP dd g q U.heap M ∧ va_K dd vwCl (tysW g) U)
def mQi (dd : va_G) (g : Nat → ClassId) (q : Nat → Nat) (A : Nat → Prop) (post : Int32 → MS → Prop) : Array Value → State → Outcome → State → Prop := va_Qi post (fun M' t => mP dd g q t.heap M') A
def mQv (dd : va_G) (g : Nat → ClassId) (q : Nat → Nat) (A : Nat → Prop) (post : MS → Prop) : Array Value → State → Outcome → State → Prop := va_Qv post (fun M' t => mP dd g q t.heap M') A
/-- a function of numbers: it reads and writes no cell -/
def sPre (av : List Value) : Array Value → State → Prop := va_Pc av (fun _ => True)
def sQi (post : Int32 → Prop) : Array Value → State → Outcome → State → Prop := va_Qi (fun r (_ : Unit) => post r) (fun _ _ => True) (fun _ => False)
theorem mPre_blind (dd : va_G) (g : Nat → ClassId) (q : Nat → Nat) (M : MS) (av : List Value) : FrameBlind (mPre dd g q M av) := fun a U gg mk h => by
  obtain ⟨h0, hP, hK⟩ := h
  exact ⟨h0, hP, va_K.moved (u := U) (U := U.calling gg mk a) (Vm.Alike.refl U.vm) hK⟩
theorem sPre_blind (av : List Value) : FrameBlind (sPre av) := fun a U gg mk h => ⟨h.1, trivial⟩
section MR
variable {p : Program} {l : Launch} {e : Env} {R : Room} {s : State} {m : MethodId} {args : Array Value} {below : List Frame} {meth : Method} {c : Code} {H : Heap} {locs : List Loc} {cells slots : Nat} {Q : State → Prop}
variable {cc : ByteArray} {pc : Nat} {ls : Array Slot} {rest : List Value} {dd : va_G} {g : Nat → ClassId} {A : Nat → Prop} {q : Nat → Nat} {M : MS} {H0 : Heap} {own : String} {Ts : List Cond}
theorem m_get (hx : p.tables.exec = Jvm.exec) (hb : c.code = cc) {index : Nat} (hts : ∀ w ∈ Ts, w.before args s = true) (hin : ∀ w ∈ wsX60, w ∈ Ts) (hown : s.vm.findClass own = some m.cls) (hK : va_K dd vwCl (tysW g) s) (hI : mI dd g q A H0 H locs M) (k : Nat) (hk : k < 17) (hlink : (Cond.fieldLink own index (TX6 k).1 (TX6 k).2.1 (TX6 k).2.2.1).before args s = true) {v : Value} (hv : (mFs q M)[k]? = some v) (hdg : decode cc pc = .ok (.getfield index, 3))
    (kk : W p l e R s m args below meth c H locs cells slots Q (F0 m (pc + 3) ls (v :: rest))) : W p l e R s m args below meth c H locs cells slots Q (F0 m pc ls (.ref (q 0) :: rest)) :=
  va_get (C := RX6) (T := TX6) (N := 17) hx hb hts hin hown hK hI.1 0 (ci := 6) (fs := mFs q M) rfl rfl k hk hlink (fun _ h => h) hv hdg kk
theorem m_put (hx : p.tables.exec = Jvm.exec) (hb : c.code = cc) {index : Nat} (hts : ∀ w ∈ Ts, w.before args s = true) (hin : ∀ w ∈ wsX60, w ∈ Ts) (hown : s.vm.findClass own = some m.cls) (hK : va_K dd vwCl (tysW g) s) (hA : mA A q) (hI : mI dd g q A H0 H locs M) (k : Nat) (hk : k ∈ [3, 7, 9, 11, 12, 13, 14, 15, 16]) (hlink : (Cond.fieldLink own index (TX6 k).1 (TX6 k).2.1 (TX6 k).2.2.1).before args s = true) {x : Int32} (hz : k = 12 → x = 0 ∨ x = 1) (hdg : decode cc pc = .ok (.putfield index, 3))
    (kk : ∀ (H1 : Heap) (locs1 : List Loc), mI dd g q A H0 H1 locs1 (mset M k 0 x) → W p l e R s m args below meth c H1 locs1 cells slots Q (F0 m (pc + 3) ls rest)) : W p l e R s m args below meth c H locs cells slots Q (F0 m pc ls (.int x :: .ref (q 0) :: rest)) := by
  have key : ∀ (ty : FieldType), parseFieldDescriptor (TX6 k).2.2.1 = some ty → narrow ty (.int x) = .int x → fits ty (.int x) = true → (TX6 k).2.2.2 = false → k < 17 → W p l e R s m args below meth c H locs cells slots Q (F0 m pc ls (.int x :: .ref (q 0) :: rest)) := by
    intro ty hd hn hf hfin hk17
    refine va_put (C := RX6) (T := TX6) (N := 17) (v := .int x) (ty := ty) hx hb hts hin tyX6 tyX6_ok nmX6 hown hK hI.1 (hA.D g M) hI.2 0 (ci := 6) (fs := mFs q M) rfl rfl k hk17 hlink (fun _ h => h) hfin hd hn hf hk17 hdg (fun H1 locs1 h1 _ h3 => ?_)
    rw [mW_put g q M k hk x] at h1
    exact kk H1 locs1 ⟨h1, h3⟩
  simp only [List.mem_cons, List.not_mem_nil, or_false] at hk
  rcases hk with rfl | rfl | rfl | rfl | rfl | rfl | rfl | rfl | rfl
  · exact key .int (by decide +kernel) rfl rfl rfl (by decide)
  · exact key .int (by decide +kernel) rfl rfl rfl (by decide)
  · exact key .int (by decide +kernel) rfl rfl rfl (by decide)
  · exact key .int (by decide +kernel) rfl rfl rfl (by decide)
  · rcases hz rfl with rfl | rfl
    · exact key .boolean (by decide +kernel) rfl rfl rfl (by decide)
    · exact key .boolean (by decide +kernel) rfl rfl rfl (by decide)
  · exact key .int (by decide +kernel) rfl rfl rfl (by decide)
  · exact key .int (by decide +kernel) rfl rfl rfl (by decide)
  · exact key .int (by decide +kernel) rfl rfl rfl (by decide)
  · exact key .int (by decide +kernel) rfl rfl rfl (by decide)
theorem mLen_le (k : Nat) : mLen k ≤ 840 := by unfold mLen; split <;> decide
theorem m_ald (hx : p.tables.exec = Jvm.exec) (hb : c.code = cc) (hK : va_K dd vwCl (tysW g) s) (hI : mI dd g q A H0 H locs M) (k : Nat) (hk : k ∈ [0, 1, 2, 4, 6, 8, 10]) (j : Nat) (hj : j < mLen k) {i : Int32} (hi : i = nI j) {v : Int32} (hv : M k j = v) (hdg : decode cc pc = .ok (.iaload, 1))
    (kk : W p l e R s m args below meth c H locs cells slots Q (F0 m (pc + 1) ls (.int v :: rest))) : W p l e R s m args below meth c H locs cells slots Q (F0 m pc ls (.int i :: .ref (q (mAr k)) :: rest)) := by
  subst hi; subst hv
  have hl := mLen_le k
  have ej : (nI j).toNatClampNeg = j := nI_clamp (by omega)
  have hin := vp_in_nI hj (by omega)
  rw [← ej] at kk
  simp only [List.mem_cons, List.not_mem_nil, or_false] at hk
  rcases hk with rfl | rfl | rfl | rfl | rfl | rfl | rfl
  · exact va_iald hx hb hK hI.1 1 0 rfl rfl hin hdg kk
  · exact va_iald hx hb hK hI.1 2 0 rfl rfl hin hdg kk
  · exact va_iald hx hb hK hI.1 3 0 rfl rfl hin hdg kk
  · exact va_iald hx hb hK hI.1 4 0 rfl rfl hin hdg kk
  · exact va_iald hx hb hK hI.1 6 0 rfl rfl hin hdg kk
  · exact va_iald hx hb hK hI.1 7 0 rfl rfl hin hdg kk
  · exact va_iald hx hb hK hI.1 8 0 rfl rfl hin hdg kk
theorem m_zld (hx : p.tables.exec = Jvm.exec) (hb : c.code = cc) (hK : va_K dd vwCl (tysW g) s) (hI : mI dd g q A H0 H locs M) (j : Nat) (hj : j < 2) {i : Int32} (hi : i = nI j) {v : Int32} (hv : M 5 j = v) (hdg : decode cc pc = .ok (.baload, 1))
    (kk : W p l e R s m args below meth c H locs cells slots Q (F0 m (pc + 1) ls (.int v :: rest))) : W p l e R s m args below meth c H locs cells slots Q (F0 m pc ls (.int i :: .ref (q 5) :: rest)) := by
  subst hi; subst hv
  have ej : (nI j).toNatClampNeg = j := nI_clamp (by omega)
  have hin := vp_in_nI hj (by omega)
  rw [← ej] at kk
  exact va_zald hx hb hK hI.1 5 2 rfl rfl hin hdg kk
theorem m_ast (hx : p.tables.exec = Jvm.exec) (hb : c.code = cc) (hK : va_K dd vwCl (tysW g) s) (hA : mA A q) (hI : mI dd g q A H0 H locs M) (k : Nat) (hk : k ∈ [0, 1, 2, 4, 6, 8, 10]) (j : Nat) (hj : j < mLen k) {i x : Int32} (hi : i = nI j) (hdg : decode cc pc = .ok (.iastore, 1))
    (kk : ∀ (H1 : Heap) (locs1 : List Loc), mI dd g q A H0 H1 locs1 (mset M k j x) → W p l e R s m args below meth c H1 locs1 cells slots Q (F0 m (pc + 1) ls rest)) : W p l e R s m args below meth c H locs cells slots Q (F0 m pc ls (.int x :: .int i :: .ref (q (mAr k)) :: rest)) := by
  subst hi
  have hl := mLen_le k
  have ej : (nI j).toNatClampNeg = j := nI_clamp (by omega)
  have hin := vp_in_nI hj (by omega)
  have fin : ∀ (H1 : Heap) (locs1 : List Loc), va_P dd vwCl ((mW g q M).set (mAr k) (q (mAr k), .inl (g 0, mLen k, .inl (upd (M k) (nI j).toNatClampNeg x)))) H1 → va_S A H0 H1 locs1 → W p l e R s m args below meth c H1 locs1 cells slots Q (F0 m (pc + 1) ls rest) := by
    intro H1 locs1 h1 h3
    rw [ej, mW_ast g q M k hk j x] at h1
    exact kk H1 locs1 ⟨h1, h3⟩
  simp only [List.mem_cons, List.not_mem_nil, or_false] at hk
  rcases hk with rfl | rfl | rfl | rfl | rfl | rfl | rfl
  · exact va_iast hx hb hK hI.1 (hA.D g M) hI.2 1 0 rfl rfl hin hdg (fun H1 locs1 h1 _ h3 => fin H1 locs1 h1 h3)
  · exact va_iast hx hb hK hI.1 (hA.D g M) hI.2 2 0 rfl rfl hin hdg (fun H1 locs1 h1 _ h3 => fin H1 locs1 h1 h3)
  · exact va_iast hx hb hK hI.1 (hA.D g M) hI.2 3 0 rfl rfl hin hdg (fun H1 locs1 h1 _ h3 => fin H1 locs1 h1 h3)
  · exact va_iast hx hb hK hI.1 (hA.D g M) hI.2 4 0 rfl rfl hin hdg (fun H1 locs1 h1 _ h3 => fin H1 locs1 h1 h3)
  · exact va_iast hx hb hK hI.1 (hA.D g M) hI.2 6 0 rfl rfl hin hdg (fun H1 locs1 h1 _ h3 => fin H1 locs1 h1 h3)
  · exact va_iast hx hb hK hI.1 (hA.D g M) hI.2 7 0 rfl rfl hin hdg (fun H1 locs1 h1 _ h3 => fin H1 locs1 h1 h3)
  · exact va_iast hx hb hK hI.1 (hA.D g M) hI.2 8 0 rfl rfl hin hdg (fun H1 locs1 h1 _ h3 => fin H1 locs1 h1 h3)
theorem m_zst (hx : p.tables.exec = Jvm.exec) (hb : c.code = cc) (hK : va_K dd vwCl (tysW g) s) (hA : mA A q) (hI : mI dd g q A H0 H locs M) (j : Nat) (hj : j < 2) {i x : Int32} (hi : i = nI j) (hz : x = 0 ∨ x = 1) (hdg : decode cc pc = .ok (.bastore, 1))
    (kk : ∀ (H1 : Heap) (locs1 : List Loc), mI dd g q A H0 H1 locs1 (mset M 5 j x) → W p l e R s m args below meth c H1 locs1 cells slots Q (F0 m (pc + 1) ls rest)) : W p l e R s m args below meth c H locs cells slots Q (F0 m pc ls (.int x :: .int i :: .ref (q 5) :: rest)) := by
  subst hi
  have ej : (nI j).toNatClampNeg = j := nI_clamp (by omega)
  have hin := vp_in_nI hj (by omega)
  have hn : vp_nar .boolean x = x := by rcases hz with rfl | rfl <;> rfl
  refine va_zast hx hb hK hI.1 (hA.D g M) hI.2 5 2 rfl rfl hin hdg (fun H1 locs1 h1 _ h3 => ?_)
  rw [ej, hn, mW_zst g q M j x] at h1
  exact kk H1 locs1 ⟨h1, h3⟩
variable {nL index n maxL : Nat} {y : MethodName} {bytes : ByteArray} {ret : Option FieldType} {ws : List Cond} {rm : Room} {As : List Value} {lv : List (Nat × Value)}
theorem m_calli (hx : p.tables.exec = Jvm.exec) (hb : c.code = cc) (hml : c.maxLocals = nL) (hown : s.vm.findClass own = some m.cls) (hts : ∀ w ∈ Ts, w.before args s = true) (hK : va_K dd vwCl (tysW g) s) (hI : mI dd g q A H0 H locs M) {post : Int32 → MS → Prop} (hM : Met l y ws rm (mPre dd g q M (.ref (q 0) :: As)) (mQi dd g q A post) 0 0 A) (cw : CallW R s args own RX6 index y bytes maxL ret ws rm 0 0 n) (hn : As.length = n) (hl : lv_has ls nL lv) (hr : (rest.map fun v => v.category).sum ≤ 8) (hc : cells ≤ R.cells ∧ slots ≤ R.slots) (hdg : decode cc pc = .ok (.invokevirtual index, 3)) {st : List Value} (hst : st = As.reverse ++ .ref (q 0) :: rest)
    (kk : ∀ (r : Int32) (M' : MS) (H1 : Heap) (locs1 : List Loc), post r M' → mI dd g q A H0 H1 locs1 M' → W p l e R s m args below meth c H1 locs1 cells slots Q (F0 m (pc + 3) ls (.int r :: rest))) : W p l e R s m args below meth c H locs cells slots Q (F0 m pc ls st) := by
  refine va_calli (va_runV (As := As) (rest := rest) ⟨hx, hb, hml, hown, hts⟩ hM cw ⟨mPre_blind dd g q M _, va_recv hK hI.1 (ci := 6) (q0 := 0) rfl rfl, fun U hU hW => ⟨rfl, by rw [hU]; exact hI.1, va_K.moved hW.alike hK⟩⟩ rfl hn hl.1 hst (lv_room hr) hdg hc) hI.2 (fun _ _ h => h) (fun _ h => h) (fun r u t H1 locs1 ht _ hp hB _ _ hS => ?_)
  exact kk r u H1 locs1 hp ⟨by rw [← ht]; exact hB, hS⟩
theorem m_callv (hx : p.tables.exec = Jvm.exec) (hb : c.code = cc) (hml : c.maxLocals = nL) (hown : s.vm.findClass own = some m.cls) (hts : ∀ w ∈ Ts, w.before args s = true) (hK : va_K dd vwCl (tysW g) s) (hI : mI dd g q A H0 H locs M) {post : MS → Prop} (hM : Met l y ws rm (mPre dd g q M (.ref (q 0) :: As)) (mQv dd g q A post) 0 0 A) (cw : CallW R s args own RX6 index y bytes maxL ret ws rm 0 0 n) (hn : As.length = n) (hl : lv_has ls nL lv) (hr : (rest.map fun v => v.category).sum ≤ 8) (hc : cells ≤ R.cells ∧ slots ≤ R.slots) (hdg : decode cc pc = .ok (.invokevirtual index, 3)) {st : List Value} (hst : st = As.reverse ++ .ref (q 0) :: rest)
    (kk : ∀ (M' : MS) (H1 : Heap) (locs1 : List Loc), post M' → mI dd g q A H0 H1 locs1 M' → W p l e R s m args below meth c H1 locs1 cells slots Q (F0 m (pc + 3) ls rest)) : W p l e R s m args below meth c H locs cells slots Q (F0 m pc ls st) := by
  refine va_callv (va_runV (As := As) (rest := rest) ⟨hx, hb, hml, hown, hts⟩ hM cw ⟨mPre_blind dd g q M _, va_recv hK hI.1 (ci := 6) (q0 := 0) rfl rfl, fun U hU hW => ⟨rfl, by rw [hU]; exact hI.1, va_K.moved hW.alike hK⟩⟩ rfl hn hl.1 hst (lv_room hr) hdg hc) hI.2 (fun _ _ h => h) (fun _ h => h) (fun u t H1 locs1 ht _ hp hB _ _ hS => ?_)
  exact kk u H1 locs1 hp ⟨by rw [← ht]; exact hB, hS⟩
/-- a static call of a function of numbers -/
theorem s_calli (hx : p.tables.exec = Jvm.exec) (hb : c.code = cc) (hml : c.maxLocals = nL) (hown : s.vm.findClass own = some m.cls) (hts : ∀ w ∈ Ts, w.before args s = true) (hS : va_S A H0 H locs) {post : Int32 → Prop} (hM : Met l y ws rm (sPre As) (sQi post) 0 0 (fun _ => False)) (cw : CallB R s args own index y bytes maxL ret ws rm 0 0 n ∧ (Cond.static y).before args s = true) (hn : As.length = n) (hl : lv_has ls nL lv) (hr : (rest.map fun v => v.category).sum ≤ 8) (hc : cells ≤ R.cells ∧ slots ≤ R.slots) (hdg : decode cc pc = .ok (.invokestatic index, 3)) {st : List Value} (hst : st = As.reverse ++ rest)
    (kk : ∀ (r : Int32) (H1 : Heap) (locs1 : List Loc), post r → (∀ q : Nat, q < H.size → H1[q]? = H[q]?) → va_S A H0 H1 locs1 → W p l e R s m args below meth c H1 locs1 cells slots Q (F0 m (pc + 3) ls (.int r :: rest))) : W p l e R s m args below meth c H locs cells slots Q (F0 m pc ls st) := by
  refine va_calli (va_runS (As := As) (rest := rest) ⟨hx, hb, hml, hown, hts⟩ hM cw ⟨sPre_blind _, fun U hU hW => ⟨rfl, trivial⟩⟩ rfl hn hl.1 hst (lv_room hr) hdg hc) hS (fun _ _ h => h.elim) (fun _ h => h.elim) (fun r u t H1 locs1 ht _ hp hB _ hk hS => ?_)
  exact kk r H1 locs1 hp (fun q h => hk q h (fun z => z)) hS
theorem m_calls (hx : p.tables.exec = Jvm.exec) (hb : c.code = cc) (hml : c.maxLocals = nL) (hown : s.vm.findClass own = some m.cls) (hts : ∀ w ∈ Ts, w.before args s = true) (hI : mI dd g q A H0 H locs M) {post : Int32 → Prop} (hM : Met l y ws rm (sPre As) (sQi post) 0 0 (fun _ => False)) (cw : CallB R s args own index y bytes maxL ret ws rm 0 0 n ∧ (Cond.static y).before args s = true) (hn : As.length = n) (hl : lv_has ls nL lv) (hr : (rest.map fun v => v.category).sum ≤ 8) (hc : cells ≤ R.cells ∧ slots ≤ R.slots) (hdg : decode cc pc = .ok (.invokestatic index, 3)) {st : List Value} (hst : st = As.reverse ++ rest)
    (kk : ∀ (r : Int32) (H1 : Heap) (locs1 : List Loc), post r → mI dd g q A H0 H1 locs1 M → W p l e R s m args below meth c H1 locs1 cells slots Q (F0 m (pc + 3) ls (.int r :: rest))) : W p l e R s m args below meth c H locs cells slots Q (F0 m pc ls st) := by
  refine s_calli hx hb hml hown hts hI.2 hM cw hn hl hr hc hdg hst (fun r H1 locs1 hp hk hS => ?_)
  exact kk r H1 locs1 hp ⟨hI.1.kept (fun k x hx => hk x.1 (hI.1 k x hx).lt), hS⟩
end MR
end
section
/-! the walk's goal, returns, and the pure words of a beat's state (f: the table's row 0, a place as the model has it) -/
abbrev wk (p : Program) (l : Launch) (e : Env) (ws : List Cond) (rm : Room) (s : State) (m : MethodId) (av : List Value) (below : List Frame) (meth : Method) (c : Code) (H : Heap) (locs : List Loc) (Qc : Array Value → State → Outcome → State → Prop) (A : Nat → Prop) (fr : JFrame) : Prop :=
  W p l e (headSpec ws rm).room s m av.toArray below meth c H locs 0 0 (MQ below Qc av.toArray s 0 0 A) fr
section MB
variable {p : Program} {l : Launch} {e : Env} {R : Room} {s : State} {m : MethodId} {args : Array Value} {below : List Frame} {meth : Method} {c : Code} {H : Heap} {locs : List Loc} {cells slots : Nat} {Q : State → Prop}
variable {cc : ByteArray} {pc : Nat} {ls : Array Slot} {rest : List Value} {dd : va_G} {g : Nat → ClassId} {A : Nat → Prop} {q : Nat → Nat} {M : MS}
theorem lv_re {x y : Int32} (h : x = y) (k : W p l e R s m args below meth c H locs cells slots Q (F0 m pc ls (.int y :: rest))) : W p l e R s m args below meth c H locs cells slots Q (F0 m pc ls (.int x :: rest)) := h ▸ k
theorem m_iret {v : Int32} {post : Int32 → MS → Prop} (hx : p.tables.exec = Jvm.exec) (hb : c.code = cc) (hr : meth.sig.returnType = some .int) (hI : mI dd g q A s.heap H locs M) (hp : post v M) (hdg : decode cc pc = .ok (.ireturn, 1)) (hlocks : meth.locks = false) : W p l e R s m args below meth c H locs cells slots (MQ below (mQi dd g q A post) args s cells slots A) (F0 m pc ls [.int v]) :=
  W.iret (v := v) hx hb hr (fun t ht hW => ⟨⟨v, M, rfl, hp, by show mP dd g q t.heap M; rw [ht]; exact hI.1⟩, hI.2.F ht⟩) hI.2.2.2 hdg hlocks
theorem m_zret {v : Int32} {ty : FieldType} {post : Int32 → MS → Prop} (hx : p.tables.exec = Jvm.exec) (hb : c.code = cc) (hr : meth.sig.returnType = some ty) (hn : narrow ty (.int v) = .int v) (hI : mI dd g q A s.heap H locs M) (hp : post v M) (hdg : decode cc pc = .ok (.ireturn, 1)) (hlocks : meth.locks = false) : W p l e R s m args below meth c H locs cells slots (MQ below (mQi dd g q A post) args s cells slots A) (F0 m pc ls [.int v]) :=
  W.zret (v := v) hx hb hr hn (fun t ht hW => ⟨⟨v, M, rfl, hp, by show mP dd g q t.heap M; rw [ht]; exact hI.1⟩, hI.2.F ht⟩) hI.2.2.2 hdg hlocks
theorem m_vret {post : MS → Prop} (hx : p.tables.exec = Jvm.exec) (hb : c.code = cc) (hr : meth.sig.returnType = none) (hI : mI dd g q A s.heap H locs M) (hp : post M) (hdg : decode cc pc = .ok (.return_, 1)) (hlocks : meth.locks = false) : W p l e R s m args below meth c H locs cells slots (MQ below (mQv dd g q A post) args s cells slots A) (F0 m pc ls []) :=
  W.vret hx hb hr (fun t ht hW => ⟨⟨M, rfl, hp, by show mP dd g q t.heap M; rw [ht]; exact hI.1⟩, hI.2.F ht⟩) hI.2.2.2 hdg hlocks
theorem s_iret {v : Int32} {post : Int32 → Prop} (hx : p.tables.exec = Jvm.exec) (hb : c.code = cc) (hr : meth.sig.returnType = some .int) (hS : va_S (fun _ => False) s.heap H locs) (hp : post v) (hdg : decode cc pc = .ok (.ireturn, 1)) (hlocks : meth.locks = false) : W p l e R s m args below meth c H locs cells slots (MQ below (sQi post) args s cells slots (fun _ => False)) (F0 m pc ls [.int v]) :=
  W.iret (v := v) hx hb hr (fun t ht hW => ⟨⟨v, (), rfl, hp, trivial⟩, hS.F ht⟩) hS.2.2 hdg hlocks
theorem s_zret {v : Int32} {ty : FieldType} {post : Int32 → Prop} (hx : p.tables.exec = Jvm.exec) (hb : c.code = cc) (hr : meth.sig.returnType = some ty) (hn : narrow ty (.int v) = .int v) (hS : va_S (fun _ => False) s.heap H locs) (hp : post v) (hdg : decode cc pc = .ok (.ireturn, 1)) (hlocks : meth.locks = false) : W p l e R s m args below meth c H locs cells slots (MQ below (sQi post) args s cells slots (fun _ => False)) (F0 m pc ls [.int v]) :=
  W.zret (v := v) hx hb hr hn (fun t ht hW => ⟨⟨v, (), rfl, hp, trivial⟩, hS.F ht⟩) hS.2.2 hdg hlocks
end MB
/-! a row of the table changed as a whole -/
def ms0 (M : MS) (f : Nat → Int32) : MS := fun a => if a = 0 then f else M a
theorem ms0_0 (M : MS) (f : Nat → Int32) : ms0 M f 0 = f := rfl
theorem ms0_ms0 (M : MS) (f h : Nat → Int32) : ms0 (ms0 M f) h = ms0 M h := by funext a; simp only [ms0]; split <;> rfl
theorem ms0_self (M : MS) : ms0 M (M 0) = M := by
  funext a; simp only [ms0]; split
  · next h => rw [h]
  · rfl
theorem ms0_k (M : MS) (f : Nat → Int32) {k : Nat} (h : k ≠ 0) : ms0 M f k = M k := by simp [ms0, h]
theorem mset_0 (M : MS) (j : Nat) (x : Int32) : mset M 0 j x = ms0 M (upd (M 0) j x) := by
  funext a b; by_cases h : a = 0
  · subst h; simp [mset, ms0, upd]
  · simp [mset, ms0, h]
theorem upd_self {f : Nat → Int32} {k : Nat} {x : Int32} : upd f k x k = x := by simp [upd]
theorem upd_ne {f : Nat → Int32} {k j : Nat} {x : Int32} (h : j ≠ k) : upd f k x j = f j := by simp [upd, h]
theorem upd_id (f : Nat → Int32) (k : Nat) : upd f k (f k) = f := by
  funext j; simp only [upd]; split
  · next h => rw [h]
  · rfl
theorem upd_upd (f : Nat → Int32) (k : Nat) (x y : Int32) : upd (upd f k x) k y = upd f k y := by
  funext j; simp only [upd]; split <;> rfl
/-! numbers -/
def jabs (x : Int32) : Int32 := if 0 ≤ x then x else -x
def inB (v lo hi : Int32) : Bool := decide (¬ v < lo) && decide (¬ hi < v)
theorem inB_t {v lo hi : Int32} : inB v lo hi = true ↔ ¬ v < lo ∧ ¬ hi < v := by simp [inB]
theorem inB_f {v lo hi : Int32} : inB v lo hi = false ↔ ¬ (¬ v < lo ∧ ¬ hi < v) := by rw [← inB_t]; simp
def manyN (x : Int32) : Nat → Int32
  | 0 => 0
  | k + 1 => manyN x k + (x >>> (nI k &&& 31) &&& 1)
/-! the state: how many clocks, ladders; what a loop over them says -/
def cn (f : Nat → Int32) : Nat := (f 5).toNatClampNeg
def ln (f : Nat → Int32) : Nat := (f 6).toNatClampNeg
def Wk (f : Nat → Int32) : Prop := f 5 = nI (cn f) ∧ cn f ≤ 16 ∧ f 6 = nI (ln f) ∧ ln f ≤ 4
def isC (f : Nat → Int32) (c : Int32) (i : Nat) : Prop := i < cn f ∧ c = nI i
theorem Wk.congr {f h : Nat → Int32} (w : Wk f) (e5 : h 5 = f 5) (e6 : h 6 = f 6) : Wk h ∧ cn h = cn f ∧ ln h = ln f := by
  have a : cn h = cn f := by simp only [cn, e5]
  have b : ln h = ln f := by simp only [ln, e6]
  refine ⟨⟨by rw [a, e5]; exact w.1, by rw [a]; exact w.2.1, by rw [b, e6]; exact w.2.2.1, by rw [b]; exact w.2.2.2⟩, a, b⟩
def rt (f : Nat → Int32) (c : Nat) : Int32 := f (12 + 8 * c + 2) + 3 * f (12 + 8 * c + 3)
def offB (f : Nat → Int32) (c : Nat) (t : Int32) : Bool := decide (¬ jabs (f (12 + 8 * c + 4)) ≤ t)
def o2i (o : Option Nat) : Int32 := match o with | none => -6 | some k => nI k
/-- the ladder for a clock of r rungs, among the first k -/
def ladP (f : Nat → Int32) (r : Int32) : Nat → Option Nat
  | 0 => none
  | k + 1 => match ladP f r k with
    | none => if ¬ r ≤ 0 ∧ ¬ f (8 + k) < r then some k else none
    | some j => if (¬ r ≤ 0 ∧ ¬ f (8 + k) < r) ∧ ¬ f (8 + j) ≤ f (8 + k) then some k else some j
theorem ladP_lt (f : Nat → Int32) (r : Int32) : ∀ (k j : Nat), ladP f r k = some j → j < k := by
  intro k
  induction k with
  | zero => intro j h; cases h
  | succ k ih =>
    intro j h
    unfold ladP at h
    split at h
    · split at h
      · cases h; omega
      · cases h
    · next i hi =>
      have := ih i hi
      split at h
      · cases h; omega
      · cases h; omega
def ladF (f : Nat → Int32) (c : Nat) : Option Nat := ladP f (f (12 + 8 * c + 1)) (ln f)
def canW (f : Nat → Int32) (c : Nat) : Bool := decide (f (12 + 8 * c + 1) = 0) || (ladF f c).isSome
theorem canW_t {f : Nat → Int32} {c : Nat} : canW f c = true ↔ f (12 + 8 * c + 1) = 0 ∨ ladF f c ≠ none := by
  unfold canW
  cases ladF f c <;> simp
theorem canW_f {f : Nat → Int32} {c : Nat} : canW f c = false ↔ ¬ (f (12 + 8 * c + 1) = 0 ∨ ladF f c ≠ none) := by rw [← canW_t]; simp
def dayM (f : Nat → Int32) (c : Nat) : Nat → Int32 :=
  if f (12 + 8 * c + 6) = 1 then
    if ¬ f (12 + 8 * c + 5) + 1 ≤ f 1 then upd (upd (upd (upd f (12 + 8 * c + 5) (f (12 + 8 * c + 5) + 1)) (12 + 8 * c + 4) (f (12 + 8 * c + 4) + rt f c)) (12 + 8 * c + 6) 0) (12 + 8 * c + 4) 43200
    else upd (upd f (12 + 8 * c + 5) (f (12 + 8 * c + 5) + 1)) (12 + 8 * c + 4) (f (12 + 8 * c + 4) + rt f c)
  else upd f (12 + 8 * c + 5) (f (12 + 8 * c + 5) + 1)
def stillN (f : Nat → Int32) : Nat → Int32
  | 0 => 0
  | k + 1 => stillN f k ||| (if f (12 + 8 * k + 6) = 1 then (0 : Int32) else (1 : Int32) <<< (nI k &&& 31))
theorem isC_iff {f : Nat → Int32} (w : Wk f) (x : Int32) : inB x 0 (f 5 - 1) = true ↔ ∃ i, isC f x i := by
  rw [inB_t]
  obtain ⟨h5, h16, -, -⟩ := w
  have e1 : (f 5 - 1).toInt = (cn f : Int) - 1 := by
    rw [h5]
    have := pk_sub_toInt (a := cn f) (b := 1) (by omega) (by omega)
    exact this
  constructor
  · rintro ⟨h1, h2⟩
    obtain ⟨j, hj, rfl⟩ := nI_of h1
    refine ⟨j, ?_, rfl⟩
    have h3 : ¬ (f 5 - 1).toInt < (nI j).toInt := fun z => h2 (Int32.lt_iff_toInt_lt.mpr z)
    rw [e1, nI_toInt hj] at h3
    omega
  · rintro ⟨i, hi, rfl⟩
    refine ⟨nI_pos (by omega), fun z => ?_⟩
    have h3 := Int32.lt_iff_toInt_lt.mp z
    rw [e1, nI_toInt (by omega)] at h3
    omega
theorem nI_nm {n : Nat} (h : n < 2 ^ 31) : nI n ≠ -6 := by
  intro z
  have e : (nI n).toInt = (-6 : Int32).toInt := by rw [z]
  rw [nI_toInt h, show (-6 : Int32).toInt = -6 from by decide] at e
  omega
theorem o2i_ne {o : Option Nat} (h : ∀ k, o = some k → k < 2 ^ 31) : o2i o ≠ -6 ↔ o ≠ none := by
  cases o with
  | none => simp [o2i]
  | some k => simp [o2i, nI_nm (h k rfl)]
theorem ladF_lt {f : Nat → Int32} (w : Wk f) (c : Nat) : ∀ k, ladF f c = some k → k < 2 ^ 31 := fun k h => by
  have := ladP_lt _ _ _ _ h
  have := w.2.2.2
  omega
end
section
/-! what the methods do to the state, as the model does it -/
def mrow (M : MS) (k : Nat) (f : Nat → Int32) : MS := fun a => if a = k then f else M a
theorem mrow_s (M : MS) (k : Nat) (f : Nat → Int32) : mrow M k f k = f := by simp [mrow]
theorem mrow_n (M : MS) {k a : Nat} (h : a ≠ k) (f : Nat → Int32) : mrow M k f a = M a := by simp [mrow, h]
theorem mset_mrow (M : MS) (k j : Nat) (x : Int32) : mset M k j x = mrow M k (upd (M k) j x) := by
  funext a b; by_cases h : a = k
  · subst h; simp [mset, mrow, upd]
  · simp [mset, mrow, h]
theorem dayM_lo (f : Nat → Int32) (c : Nat) {j : Nat} (h : j < 12) : dayM f c j = f j := by
  have a : ∀ w, j ≠ 12 + 8 * c + w := fun w => by omega
  unfold dayM; split
  · split <;> simp [upd, a]
  · simp [upd, a]
def dayAll (f : Nat → Int32) : Nat → Nat → Int32
  | 0 => f
  | c + 1 => dayM (dayAll f c) c
theorem dayAll_lo (f : Nat → Int32) (n : Nat) {j : Nat} (h : j < 12) : dayAll f n j = f j := by
  induction n with
  | zero => rfl
  | succ n ih => show dayM _ _ j = _; rw [dayM_lo _ _ h, ih]
def passD (f : Nat → Int32) : Nat → Nat → Int32
  | 0 => f
  | d + 1 => dayAll (passD f d) (cn f)
theorem passD_lo (f : Nat → Int32) (n : Nat) {j : Nat} (h : j < 12) : passD f n j = f j := by
  induction n with
  | zero => rfl
  | succ n ih => show dayAll _ _ j = _; rw [dayAll_lo _ _ h, ih]
def chg1 (f : Nat → Int32) (a : Int32) (c : Nat) : Nat → Int32 := upd f (12 + 8 * c + 4) (f (12 + 8 * c + 4) + (if f (12 + 8 * c + 6) = 0 then 0 else if a = 1 then -3600 else 3600))
def chgA (f : Nat → Int32) (a : Int32) : Nat → Nat → Int32
  | 0 => f
  | c + 1 => chg1 (chgA f a c) a c
theorem chgA_lo (f : Nat → Int32) (a : Int32) (n : Nat) {j : Nat} (h : j < 12) : chgA f a n j = f j := by
  induction n with
  | zero => rfl
  | succ n ih =>
    show chg1 _ _ _ j = _
    unfold chg1
    rw [upd_ne (by omega), ih]
def wkS (f : Nat → Int32) (c : Nat) : Int32 := f (12 + 8 * c + 3) + (if ¬ rt f c ≤ 0 then -1 else if 0 ≤ rt f c then 0 else 1)
def workM (f : Nat → Int32) (c : Nat) : Nat → Int32 :=
  let h := if f (12 + 8 * c + 6) = 1 ∧ ¬ jabs (f (12 + 8 * c + 4)) ≤ f 0 / 2 then upd f (12 + 8 * c + 3) (if inB (wkS f c) (-20) 20 = true then wkS f c else f (12 + 8 * c + 3)) else f
  upd (upd (upd (upd h (12 + 8 * c + 6) 1) (12 + 8 * c + 4) 0) (12 + 8 * c + 5) 0) (12 + 8 * c + 7) (f (12 + 8 * c + 7) + 1)
theorem workM_lo (f : Nat → Int32) (c : Nat) {j : Nat} (h : j < 12) : workM f c j = f j := by
  have a : ∀ w, j ≠ 12 + 8 * c + w := fun w => by omega
  unfold workM; split <;> simp [upd, a]
/-- the minutes: sum, house, what is carried, when k of the row are gone -/
def miS (f w : Nat → Int32) : Nat → Int32 × Int32 × Int32
  | 0 => (0, 0, -6)
  | k + 1 =>
    let p := miS f w k
    let c := (w k).toNatClampNeg
    let t := f (12 + 8 * c + 0)
    let u := p.1 + jabs (p.2.1 - t) * f 2
    if canW f c = true then
      (u + f 3 + (if o2i (ladF f c) = -6 ∨ o2i (ladF f c) = p.2.2 then 0 else 2 * (jabs (t - 0) * f 2)), t, if o2i (ladF f c) = -6 then p.2.2 else o2i (ladF f c))
    else (u, t, p.2.2)
def miV (f w : Nat → Int32) (k : Nat) : Int32 := (miS f w k).1 + jabs ((miS f w k).2.1 - 0) * f 2
def goF (f w : Nat → Int32) : Nat → Nat → Int32
  | 0 => f
  | k + 1 => if canW (goF f w k) (w k).toNatClampNeg = true then workM (goF f w k) (w k).toNatClampNeg else goF f w k
theorem goF_lo (f w : Nat → Int32) (n : Nat) {j : Nat} (h : j < 12) : goF f w n j = f j := by
  induction n with
  | zero => rfl
  | succ n ih =>
    unfold goF; split
    · rw [workM_lo _ _ h, ih]
    · exact ih
/-- a row of clocks: its length and what it holds, when k clocks are looked at -/
def loW (n : Nat) (x : Int32) (b : Bool) (w : Nat → Int32) : Nat → Nat × (Nat → Int32)
  | 0 => (0, w)
  | k + 1 =>
    let p := loW n x b w k
    let c := if b then n - 1 - k else k
    if (x >>> (nI c &&& 31)) &&& 1 = 1 then (p.1 + 1, upd p.2 p.1 (nI c)) else p
theorem loW_le (n : Nat) (x : Int32) (b : Bool) (w : Nat → Int32) (k : Nat) : (loW n x b w k).1 ≤ k := by
  induction k with
  | zero => exact Nat.le_refl _
  | succ k ih =>
    have key : ∀ (P : Prop) [Decidable P] (a : Nat × (Nat → Int32)) (h : Nat → Int32), (if P then (a.1 + 1, h) else a).1 ≤ a.1 + 1 := by
      intro P _ a h
      split
      · exact Nat.le_refl _
      · exact Nat.le_succ _
    exact Nat.le_trans (key _ _ _) (Nat.succ_le_succ ih)
end
section
/-! rows of places that are copied; the row of a beat -/
def loL (n : Nat) (x : Int32) (b : Bool) (w : Nat → Int32) (k : Nat) : Nat := (loW n x b w k).1
def loN (n : Nat) (x : Int32) (b : Bool) (w : Nat → Int32) (k : Nat) : Nat → Int32 := (loW n x b w k).2
def loC (n : Nat) (b : Bool) (k : Nat) : Nat := if b then n - 1 - k else k
theorem loL_le (n : Nat) (x : Int32) (b : Bool) (w : Nat → Int32) (k : Nat) : loL n x b w k ≤ k := loW_le n x b w k
theorem loW_t {n : Nat} {x : Int32} {b : Bool} {w : Nat → Int32} {k : Nat} (h : (x >>> (nI (loC n b k) &&& 31)) &&& 1 = 1) : loL n x b w (k + 1) = loL n x b w k + 1 ∧ loN n x b w (k + 1) = upd (loN n x b w k) (loL n x b w k) (nI (loC n b k)) := by
  unfold loL loN; unfold loC at h ⊢; simp only [loW, h, if_true]; exact ⟨trivial, trivial⟩
theorem loW_f {n : Nat} {x : Int32} {b : Bool} {w : Nat → Int32} {k : Nat} (h : ¬ (x >>> (nI (loC n b k) &&& 31)) &&& 1 = 1) : loL n x b w (k + 1) = loL n x b w k ∧ loN n x b w (k + 1) = loN n x b w k := by
  unfold loL loN; unfold loC at h; simp only [loW, h, if_false]; exact ⟨trivial, trivial⟩
def loM (M : MS) (n : Nat) (x : Int32) (b : Bool) (k : Nat) : MS := mset (mrow M 8 (loN n x b (M 8) k)) 9 0 (nI (loL n x b (M 8) k))
theorem mrow_self (M : MS) (k : Nat) : mrow M k (M k) = M := by
  funext a; simp only [mrow]; split
  · next h => rw [h]
  · rfl
theorem loM_0 (M : MS) (n : Nat) (x : Int32) (b : Bool) : mset M 9 0 0 = loM M n x b 0 := by
  show mset M 9 0 0 = mset (mrow M 8 (M 8)) 9 0 (nI 0)
  rw [mrow_self]; rfl
theorem loM_t {M : MS} {n : Nat} {x : Int32} {b : Bool} {k : Nat} (h : (x >>> (nI (loC n b k) &&& 31)) &&& 1 = 1) : mset (mset (loM M n x b k) 8 (loL n x b (M 8) k) (nI (loC n b k))) 9 0 (nI (loL n x b (M 8) k + 1)) = loM M n x b (k + 1) := by
  obtain ⟨h1, h2⟩ := loW_t (w := M 8) h
  unfold loM; rw [h1, h2]
  funext i j
  simp only [mset, mrow, upd]
  by_cases a : i = 9 ∧ j = 0
  · simp [a]
  · rw [if_neg a, if_neg a, if_neg a]
    by_cases e : i = 8
    · subst e; simp [upd]
    · simp [e]
theorem loM_f {M : MS} {n : Nat} {x : Int32} {b : Bool} {k : Nat} (h : ¬ (x >>> (nI (loC n b k) &&& 31)) &&& 1 = 1) : loM M n x b k = loM M n x b (k + 1) := by
  obtain ⟨h1, h2⟩ := loW_f (w := M 8) h
  unfold loM; rw [h1, h2]
theorem loM_k (M : MS) (n : Nat) (x : Int32) (b : Bool) (k : Nat) {a : Nat} (h8 : a ≠ 8) (h9 : a ≠ 9) : loM M n x b k a = M a := by
  unfold loM; rw [mset_ne _ h9, mrow_n _ h8]
def loR (x : Int32) (L : Nat) : Int32 := if 0 ≤ x then (if L = 0 then -5 else 0) else -2
def sh1 (b : Nat → Int32) (k : Nat) : Nat → Int32 := fun j => if j < k then b (140 + j) else b j
theorem sh1_0 (b : Nat → Int32) : sh1 b 0 = b := by funext j; simp [sh1]
theorem sh1_s (b : Nat → Int32) (k : Nat) : upd (sh1 b k) k (b (140 + k)) = sh1 b (k + 1) := by
  funext j; simp only [upd, sh1]
  by_cases h : j = k
  · subst h; simp
  · by_cases h2 : j < k
    · simp [h, h2, Nat.lt_succ_of_lt h2]
    · have : ¬ j < k + 1 := by omega
      simp [h, h2, this]
/-- the places a .. a+k-1 out of f -/
def cp1 (b f : Nat → Int32) (a k : Nat) : Nat → Int32 := fun j => if a ≤ j ∧ j < a + k then f (j - a) else b j
theorem cp1_0 (b f : Nat → Int32) (a : Nat) : cp1 b f a 0 = b := by
  funext j; simp only [cp1]; rw [if_neg (by omega)]
theorem cp1_s (b f : Nat → Int32) (a k : Nat) : upd (cp1 b f a k) (a + k) (f k) = cp1 b f a (k + 1) := by
  funext j; simp only [upd, cp1]
  by_cases h : j = a + k
  · subst h; rw [if_pos rfl, if_pos (by omega), show a + k - a = k by omega]
  · rw [if_neg h]
    by_cases h2 : a ≤ j ∧ j < a + k
    · rw [if_pos h2, if_pos (by omega)]
    · rw [if_neg h2, if_neg (by omega)]
/-- the first k places out of f's places from a on -/
def cp2 (b f : Nat → Int32) (a k : Nat) : Nat → Int32 := fun j => if j < k then f (a + j) else b j
theorem cp2_0 (b f : Nat → Int32) (a : Nat) : cp2 b f a 0 = b := by funext j; simp [cp2]
theorem cp2_s (b f : Nat → Int32) (a k : Nat) : upd (cp2 b f a k) k (f (a + k)) = cp2 b f a (k + 1) := by
  funext j; simp only [upd, cp2]
  by_cases h : j = k
  · subst h; rw [if_pos rfl, if_pos (by omega)]
  · rw [if_neg h]
    by_cases h2 : j < k
    · rw [if_pos h2, if_pos (by omega)]
    · rw [if_neg h2, if_neg (by omega)]
def knB (b f : Nat → Int32) (kn : Nat) : Nat → Int32 := if kn = 6 then cp1 (sh1 b 700) f 700 140 else cp1 b f (140 * kn) 140
def knN (kn : Nat) : Nat := if kn = 6 then 6 else kn + 1
def knM (M : MS) (kn : Nat) : MS := mset (mrow M 2 (knB (M 2) (M 0) kn)) 3 0 (nI (knN kn))
theorem knM_k (M : MS) (kn : Nat) {a : Nat} (h2 : a ≠ 2) (h3 : a ≠ 3) : knM M kn a = M a := by
  unfold knM; rw [mset_ne _ h3, mrow_n _ h2]
theorem mset_mset (M : MS) (k j : Nat) (x y : Int32) : mset (mset M k j x) k j y = mset M k j y := by
  funext a b; simp only [mset]; split <;> rfl
theorem mset_comm (M : MS) {k a : Nat} (h : a ≠ k) (j b : Nat) (x y : Int32) : mset (mset M k j x) a b y = mset (mset M a b y) k j x := by
  funext u v; simp only [mset]
  by_cases h1 : u = a ∧ v = b
  · have : ¬ (u = k ∧ v = j) := fun z => h (h1.1.symm.trans z.1)
    simp [h1, this]; intro z; exact absurd z h
  · by_cases h2 : u = k ∧ v = j
    · rw [if_neg h1, if_pos h2, if_pos h2]
    · rw [if_neg h1, if_neg h2, if_neg h2, if_neg h1]
theorem mset_mrow_s (M : MS) (k j : Nat) (f : Nat → Int32) (x : Int32) : mset (mrow M k f) k j x = mrow M k (upd f j x) := by
  funext a b; by_cases h : a = k
  · subst h; simp [mset, mrow, upd]
  · simp [mset, mrow, h]
/-- a clock is hung as number n -/
def newC (f : Nat → Int32) (n : Nat) (h r d : Int32) : Nat → Int32 := upd (upd (upd (upd (upd (fun j => if 12 + 8 * n ≤ j ∧ j < 12 + 8 * n + 8 then 0 else f j) (12 + 8 * n + 0) h) (12 + 8 * n + 1) r) (12 + 8 * n + 2) d) (12 + 8 * n + 6) 1) 5 (nI (n + 1))
def zr1 (f : Nat → Int32) (n k : Nat) : Nat → Int32 := fun j => if 12 + 8 * n ≤ j ∧ j < 12 + 8 * n + k then 0 else f j
theorem zr1_0 (f : Nat → Int32) (n : Nat) : zr1 f n 0 = f := by funext j; simp only [zr1]; rw [if_neg (by omega)]
theorem zr1_s (f : Nat → Int32) (n k : Nat) : upd (zr1 f n k) (12 + 8 * n + k) 0 = zr1 f n (k + 1) := by
  funext j; simp only [upd, zr1]
  by_cases h : j = 12 + 8 * n + k
  · subst h; rw [if_pos rfl, if_pos (by omega)]
  · rw [if_neg h]
    by_cases h2 : 12 + 8 * n ≤ j ∧ j < 12 + 8 * n + k
    · rw [if_pos h2, if_pos (by omega)]
    · rw [if_neg h2, if_neg (by omega)]
/-- clocks off by more than told (4), that can't be wound (5), how often wound (7) -/
def sumN (f : Nat → Int32) (w : Int32) : Nat → Int32
  | 0 => 0
  | k + 1 => sumN f w k + (if w = 7 then f (12 + 8 * k + 7) else (if w = 4 then (if offB f k (f 0) = true then 1 else 0) else (if canW f k = true then 0 else 1)))
def mostN (f : Nat → Int32) : Nat → Int32
  | 0 => -6
  | k + 1 => if canW f k = true then mostN f k else if f (12 + 8 * k + 1) ≤ mostN f k then mostN f k else f (12 + 8 * k + 1)
/-- days until off, by going on: at most n more -/
def lastN (f : Nat → Int32) (c : Nat) : Nat → Nat → Int32
  | 0 => f
  | d + 1 => dayM (lastN f c d) c
def aheadN (v : Nat → Int32) (c : Nat) : Nat → Int32
  | 0 => 0
  | k + 1 => aheadN v c k + (if v k < v c then 1 else if v k = v c then (if c ≤ k then 0 else 1) else 0)
def hangR (f : Nat → Int32) (h u d : Int32) : Int32 := if inB h 0 99 = true then (if inB u 0 30 = true then (if inB d (-99) 99 = true then (if cn f = 16 then -4 else 0) else -2) else -2) else -2
def lddR (f : Nat → Int32) (u : Int32) : Int32 := if inB u 1 30 = true then (if ln f = 4 then -4 else 0) else -2
def passR (f : Nat → Int32) (d : Int32) : Int32 := if inB d 1 99 = true then (if f 4 + d ≤ 9999 then 0 else -5) else -2
end
section
/-! what the public methods answer, and the table behind them -/
def isCb (f : Nat → Int32) (x : Int32) : Bool := inB x 0 (f 5 - 1)
theorem isCb_t {f : Nat → Int32} (w : Wk f) {x : Int32} {i : Nat} (h : isC f x i) : isCb f x = true := (isC_iff w x).mpr ⟨i, h⟩
theorem isCb_f {f : Nat → Int32} (w : Wk f) {x : Int32} (h : ¬ ∃ i, isC f x i) : isCb f x = false := by
  cases e : isCb f x with
  | false => rfl
  | true => exact absurd ((isC_iff w x).mp e) h
/-- a change: its fault (0: none), its answer, the state then; kn states are known before -/
def opP (flt v : Int32) (f' : Nat → Int32) (M : MS) (kn : Nat) (r : Int32) (M' : MS) : Prop := (flt = 0 ∧ r = v ∧ M' = ms0 (knM M kn) f') ∨ (flt ≠ 0 ∧ r = flt ∧ M' = M)
def setE (x v : Int32) : Int32 := if inB x 0 3 = true then (if inB v 1 (if x = 0 then 999 else 30) = true then 0 else -2) else -2
def ix (x : Int32) : Nat := x.toNatClampNeg
theorem ix_nI {i : Nat} (h : i < 2 ^ 31) : ix (nI i) = i := nI_clamp h
theorem inB_nI {x : Int32} {n : Nat} (hn : n < 2 ^ 31) (h : inB x 0 (nI n) = true) : ∃ i, i ≤ n ∧ x = nI i := by
  rw [inB_t] at h
  obtain ⟨j, hj, rfl⟩ := nI_of h.1
  exact ⟨j, Nat.le_of_not_lt fun z => h.2 ((nI_ltI hn hj).mpr z), rfl⟩
def scE (f : Nat → Int32) (x t : Int32) : Int32 := if isCb f x = true then (if inB t (-20) 20 = true then (if inB (f (12 + 8 * ix x + 3) + t) (-20) 20 = true then 0 else -5) else -2) else -1
def ofR (f : Nat → Int32) (x w : Int32) : Int32 := if isCb f x = true then
    (if w = 0 then f (12 + 8 * ix x + 0) else if w = 1 then f (12 + 8 * ix x + 1) else if w = 2 then f (12 + 8 * ix x + 2) + 100 else if w = 3 then f (12 + 8 * ix x + 3) + 20
     else if w = 4 then f (12 + 8 * ix x + 4) + 1000000000 else if w = 5 then f (12 + 8 * ix x + 5) else if w = 6 then f (12 + 8 * ix x + 6) else if w = 7 then (if offB f (ix x) (f 0) = true then 0 else 1)
     else if w = 8 then o2i (ladF f (ix x)) else if w = 9 then (if canW f (ix x) = true then 1 else 0) else if w = 10 then f (12 + 8 * ix x + 7) else -2)
  else -1
def lofR (f : Nat → Int32) (x : Int32) : Int32 := if inB x 0 (f 6 - 1) = true then f (8 + ix x) else -1
def cntR (f : Nat → Int32) (len kn : Int32) (w : Int32) : Int32 :=
  if w = 0 then f 4 else if w = 1 then f 5 else if w = 2 then f 6 else if w = 3 then stillN f (cn f) else if w = 4 then sumN f 4 (cn f) else if w = 5 then sumN f 5 (cn f) else if w = 6 then f 7 else if w = 7 then sumN f 7 (cn f)
  else if w = 8 then f 0 else if w = 9 then f 1 else if w = 10 then f 2 else if w = 11 then f 3 else if w = 12 then len else if w = 13 then kn else -2
theorem loN_ok (n : Nat) (x : Int32) (b : Bool) (w : Nat → Int32) : ∀ k, k ≤ n → ∀ j, j < loL n x b w k → ∃ i, i < n ∧ loN n x b w k j = nI i := by
  intro k
  induction k with
  | zero => intro _ j h; exact absurd h (Nat.not_lt_zero _)
  | succ k ih =>
    intro hk j hj
    by_cases h : (x >>> (nI (loC n b k) &&& 31)) &&& 1 = 1
    · obtain ⟨h1, h2⟩ := loW_t (w := w) h
      rw [h1] at hj; rw [h2]
      by_cases e : j = loL n x b w k
      · subst e; refine ⟨loC n b k, ?_, by simp [upd]⟩
        unfold loC; split <;> omega
      · rw [upd_ne e]; exact ih (by omega) j (by omega)
    · obtain ⟨h1, h2⟩ := loW_f (w := w) h
      rw [h1] at hj; rw [h2]; exact ih (by omega) j hj
theorem loM_8 (M : MS) (n : Nat) (x : Int32) (b : Bool) (k : Nat) : loM M n x b k 8 = loN n x b (M 8) k := by
  unfold loM; rw [mset_ne _ (by decide), mrow_s]
theorem loM_9 (M : MS) (n : Nat) (x : Int32) (b : Bool) (k : Nat) : loM M n x b k 9 0 = nI (loL n x b (M 8) k) := by
  unfold loM; exact mset_eq _ _ _ _
/-- a minute's way round: fewer, more, or as many -/
def wayR (a b : Int32) : Int32 := if b ≤ a then (if a ≤ b then 2 else 1) else 0
theorem lastN_lo (f : Nat → Int32) (c d : Nat) {j : Nat} (h : j < 12 + 8 * c ∨ 12 + 8 * c + 8 ≤ j) : lastN f c d j = f j := by
  induction d with
  | zero => rfl
  | succ d ih =>
    show dayM _ c j = _
    have a : ∀ w, w < 8 → j ≠ 12 + 8 * c + w := fun w hw => by omega
    unfold dayM
    split
    · split <;> simp [upd, a, ih]
    · simp [upd, a, ih]
/-- the first c of n whose count ahead is the rank -/
def needN (v : Nat → Int32) (n : Nat) (x : Int32) : Nat → Int32
  | 0 => -1
  | k + 1 => if aheadN v (n - (k + 1)) n = x then nI (n - (k + 1)) else needN v n x k
theorem hangR_0 {f : Nat → Int32} {h u d : Int32} (z : 0 ≤ hangR f h u d) : hangR f h u d = 0 ∧ inB h 0 99 = true ∧ inB u 0 30 = true ∧ inB d (-99) 99 = true ∧ cn f ≠ 16 := by
  unfold hangR at z ⊢
  split at z
  · next h1 =>
    split at z
    · next h2 =>
      split at z
      · next h3 =>
        split at z
        · exact absurd z (by decide)
        · next h4 => simp [h1, h2, h3, h4]
      · exact absurd z (by decide)
    · exact absurd z (by decide)
  · exact absurd z (by decide)
theorem lddR_0 {f : Nat → Int32} {u : Int32} (z : 0 ≤ lddR f u) : lddR f u = 0 ∧ inB u 1 30 = true ∧ ln f ≠ 4 := by
  unfold lddR at z ⊢
  split at z
  · next h1 =>
    split at z
    · exact absurd z (by decide)
    · next h4 => simp [h1, h4]
  · exact absurd z (by decide)
theorem passR_0 {f : Nat → Int32} {d : Int32} (z : 0 ≤ passR f d) : passR f d = 0 ∧ inB d 1 99 = true ∧ f 4 + d ≤ 9999 := by
  unfold passR at z ⊢
  split at z
  · next h1 =>
    split at z
    · next h4 => exact ⟨by simp only [if_pos h1, if_pos h4], h1, h4⟩
    · exact absurd z (by decide)
  · exact absurd z (by decide)
theorem inB1_nI {x : Int32} {n : Nat} (hn : n < 2 ^ 31) (h : inB x 1 (nI n) = true) : ∃ i, 1 ≤ i ∧ i ≤ n ∧ x = nI i := by
  rw [inB_t] at h
  obtain ⟨j, hj, rfl⟩ := nI_of (x := x) (fun z => h.1 (by
    rw [Int32.lt_iff_toInt_lt] at z ⊢
    rw [show (0 : Int32).toInt = 0 from by decide] at z
    rw [show (1 : Int32).toInt = 1 from by decide]
    omega))
  refine ⟨j, Nat.le_of_not_lt fun z => h.1 ((nI_ltI hj (show 1 < 2 ^ 31 by decide)).mpr z), Nat.le_of_not_lt fun z => h.2 ((nI_ltI hn hj).mpr z), rfl⟩
theorem lof_iff {f : Nat → Int32} (w : Wk f) {x : Int32} (h : inB x 0 (f 6 - 1) = true) : ∃ i, i < ln f ∧ x = nI i := by
  obtain ⟨-, -, h6, h4⟩ := w
  have e1 : (f 6 - 1).toInt = (ln f : Int) - 1 := by
    rw [h6]
    exact pk_sub_toInt (a := ln f) (b := 1) (by omega) (by omega)
  rw [inB_t] at h
  obtain ⟨j, hj, rfl⟩ := nI_of h.1
  refine ⟨j, ?_, rfl⟩
  have h3 : ¬ (f 6 - 1).toInt < (nI j).toInt := fun z => h.2 (Int32.lt_iff_toInt_lt.mpr z)
  rw [e1, nI_toInt hj] at h3
  omega
def pasF (f : Nat → Int32) (d : Nat) : Nat → Int32 := upd (passD f d) 4 (f 4 + nI d)
def stV (f : Nat → Int32) : Int32 := manyN (stillN f (cn f)) 16
def chE (a : Int32) : Int32 := if inB a 0 1 = true then 0 else -2
def goFF (f w : Nat → Int32) (L : Nat) : Nat → Int32 := upd (goF f w L) 7 (f 7 + miV f w L)
theorem loR_0 {x : Int32} {L : Nat} (z : 0 ≤ loR x L) : loR x L = 0 := by
  unfold loR at z ⊢
  split at z
  · next h1 =>
    split at z
    · exact absurd z (by decide)
    · next h2 => simp only [if_pos h1, if_neg h2]
  · exact absurd z (by decide)
theorem cp1_last (f : Nat → Int32) (c d : Nat) : cp1 (lastN f c d) (fun j => f (12 + 8 * c + j)) (12 + 8 * c) 8 = f := by
  funext j; simp only [cp1]
  by_cases h : 12 + 8 * c ≤ j ∧ j < 12 + 8 * c + 8
  · rw [if_pos h, show 12 + 8 * c + (j - (12 + 8 * c)) = j by omega]
  · rw [if_neg h]; exact lastN_lo f c d (by omega)
theorem sw_out11 {x : Int32} (h0 : ¬ x = 0) (h1 : ¬ x = 1) (h2 : ¬ x = 2) (h3 : ¬ x = 3) (h4 : ¬ x = 4) (h5 : ¬ x = 5) (h6 : ¬ x = 6) (h7 : ¬ x = 7) (h8 : ¬ x = 8) (h9 : ¬ x = 9) (h10 : ¬ x = 10) : x.toInt < 0 ∨ 10 < x.toInt := by
  by_cases z : x < 0
  · exact Or.inl (by have := Int32.lt_iff_toInt_lt.mp z; rw [show (0 : Int32).toInt = 0 from by decide] at this; exact this)
  · obtain ⟨j, hj, rfl⟩ := nI_of z
    refine Or.inr ?_
    rw [nI_toInt hj]
    have e0 : j ≠ 0 := fun z => h0 (by rw [z]; rfl)
    have e1 : j ≠ 1 := fun z => h1 (by rw [z]; rfl)
    have e2 : j ≠ 2 := fun z => h2 (by rw [z]; rfl)
    have e3 : j ≠ 3 := fun z => h3 (by rw [z]; rfl)
    have e4 : j ≠ 4 := fun z => h4 (by rw [z]; rfl)
    have e5 : j ≠ 5 := fun z => h5 (by rw [z]; rfl)
    have e6 : j ≠ 6 := fun z => h6 (by rw [z]; rfl)
    have e7 : j ≠ 7 := fun z => h7 (by rw [z]; rfl)
    have e8 : j ≠ 8 := fun z => h8 (by rw [z]; rfl)
    have e9 : j ≠ 9 := fun z => h9 (by rw [z]; rfl)
    have e10 : j ≠ 10 := fun z => h10 (by rw [z]; rfl)
    omega
theorem sw_out14 {x : Int32} (h0 : ¬ x = 0) (h1 : ¬ x = 1) (h2 : ¬ x = 2) (h3 : ¬ x = 3) (h4 : ¬ x = 4) (h5 : ¬ x = 5) (h6 : ¬ x = 6) (h7 : ¬ x = 7) (h8 : ¬ x = 8) (h9 : ¬ x = 9) (h10 : ¬ x = 10) (h11 : ¬ x = 11) (h12 : ¬ x = 12) (h13 : ¬ x = 13) : x.toInt < 0 ∨ 13 < x.toInt := by
  by_cases z : x < 0
  · exact Or.inl (by have := Int32.lt_iff_toInt_lt.mp z; rw [show (0 : Int32).toInt = 0 from by decide] at this; exact this)
  · obtain ⟨j, hj, rfl⟩ := nI_of z
    refine Or.inr ?_
    rw [nI_toInt hj]
    have e0 : j ≠ 0 := fun z => h0 (by rw [z]; rfl)
    have e1 : j ≠ 1 := fun z => h1 (by rw [z]; rfl)
    have e2 : j ≠ 2 := fun z => h2 (by rw [z]; rfl)
    have e3 : j ≠ 3 := fun z => h3 (by rw [z]; rfl)
    have e4 : j ≠ 4 := fun z => h4 (by rw [z]; rfl)
    have e5 : j ≠ 5 := fun z => h5 (by rw [z]; rfl)
    have e6 : j ≠ 6 := fun z => h6 (by rw [z]; rfl)
    have e7 : j ≠ 7 := fun z => h7 (by rw [z]; rfl)
    have e8 : j ≠ 8 := fun z => h8 (by rw [z]; rfl)
    have e9 : j ≠ 9 := fun z => h9 (by rw [z]; rfl)
    have e10 : j ≠ 10 := fun z => h10 (by rw [z]; rfl)
    have e11 : j ≠ 11 := fun z => h11 (by rw [z]; rfl)
    have e12 : j ≠ 12 := fun z => h12 (by rw [z]; rfl)
    have e13 : j ≠ 13 := fun z => h13 (by rw [z]; rfl)
    omega
end
section
/-! the pad: a text t of len signs; what is read of it -/
def chr (t : Nat → Int32) (len p : Nat) : Int32 := if p < len then t p else 0
theorem chr_pos {t : Nat → Int32} {len p : Nat} {lo hi : Int32} (h : inB (chr t len p) lo hi = true) (hlo : ¬ lo ≤ 0) : p < len := by
  rw [inB_t] at h
  rcases Nat.lt_or_ge p len with z | z
  · exact z
  · have e : chr t len p = 0 := by unfold chr; rw [if_neg (by omega)]
    rw [e] at h
    exact absurd (Int32.not_lt.mp h.1) hlo
theorem chr_out {t : Nat → Int32} {len p : Nat} (h : len ≤ p) : chr t len p = 0 := if_neg (by omega)
theorem chr_in {t : Nat → Int32} {len p : Nat} (h : p < len) : chr t len p = t p := if_pos h
def nxB (t : Nat → Int32) (len p : Nat) (lo hi : Int32) : Bool := decide (p < len) && inB (t p) lo hi
theorem nxB_t {t : Nat → Int32} {len p : Nat} {lo hi : Int32} : nxB t len p lo hi = true ↔ p < len ∧ inB (t p) lo hi = true := by simp [nxB]
theorem nxB_chr {t : Nat → Int32} {len p : Nat} {lo hi : Int32} (h : nxB t len p lo hi = true) : inB (chr t len p) lo hi = true := by
  obtain ⟨a, b⟩ := nxB_t.mp h
  rw [chr_in a]; exact b
/-- a number at p: its value, and where it ends; or none, and the place stays -/
def rN (t : Nat → Int32) (len p : Nat) : Option (Int32 × Nat) :=
  if inB (chr t len p) 48 57 = true then
    (if chr t len p - 48 ≤ 0 then some (chr t len p - 48, p + 1)
     else if nxB t len (p + 1) 48 57 = true then some (10 * (chr t len p - 48) + chr t len (p + 1) - 48, p + 1 + 1)
     else some (chr t len p - 48, p + 1))
  else none
theorem rN_place {t : Nat → Int32} {len p : Nat} {v : Int32} {p' : Nat} (h : rN t len p = some (v, p')) : p < p' ∧ p' ≤ len ∧ p' ≤ p + 2 := by
  unfold rN at h
  split at h
  · next h1 =>
    have := chr_pos h1 (by decide)
    split at h
    · cases h; omega
    · split at h
      · next h3 =>
        have := (nxB_t.mp h3).1
        cases h; omega
      · cases h; omega
  · cases h
/-- what of the table reading changes -/
def Pk (M M' : MS) : Prop := ∀ k, k ≠ 8 → k ≠ 9 → k ≠ 11 → k ≠ 12 → k ≠ 13 → k ≠ 14 → k ≠ 15 → k ≠ 16 → M' k = M k
/-- the signs of a put -/
def shK (x : Int64) (k : Nat) : Int64 := (x.toUInt64 >>> ((nI (8 * k)).toInt64.toUInt64 &&& Int64.toUInt64 63)).toInt64
def chK (x : Int64) (k : Nat) : Int32 := (shK x k &&& 255).toInt32
def enK (x : Int64) (k : Nat) : Bool := !decide (k ≤ 0) && decide (lg_cmp (shK x k) 0 = 0)
def badS (x : Int64) : Nat → Bool
  | 0 => false
  | k + 1 => badS x k || (!enK x k && !inB (chK x k) 33 126)
def manS (x : Int64) : Nat → Nat
  | 0 => 0
  | k + 1 => manS x k + (if enK x k = true then 0 else 1)
theorem manS_le (x : Int64) (k : Nat) : manS x k ≤ k := by
  induction k with
  | zero => exact Nat.le_refl _
  | succ k ih => unfold manS; split <;> omega
/-- the pad when k of the signs are put -/
def putP (b : Nat → Int32) (x : Int64) (L n : Nat) (k : Nat) : Nat → Int32 := fun j => if L + n - k ≤ j ∧ j < L + n then chK x (L + n - 1 - j) else b j
theorem putP_0 (b : Nat → Int32) (x : Int64) (L n : Nat) : putP b x L n 0 = b := by
  funext j; simp only [putP]; rw [if_neg (by omega)]
theorem putP_s (b : Nat → Int32) (x : Int64) (L n k : Nat) (h : k < n) : upd (putP b x L n k) (L + n - 1 - k) (chK x k) = putP b x L n (k + 1) := by
  funext j; simp only [upd, putP]
  by_cases z : j = L + n - 1 - k
  · subst z; rw [if_pos rfl, if_pos (by omega), show L + n - 1 - (L + n - 1 - k) = k by omega]
  · rw [if_neg z]
    by_cases h2 : L + n - k ≤ j ∧ j < L + n
    · rw [if_pos h2, if_pos (by omega)]
    · rw [if_neg h2, if_neg (by omega)]
def putE (x : Int64) (L : Nat) : Int32 := if badS x 8 = true then -2 else if L + manS x 8 ≤ 80 then 0 else -4
section MBL
variable {p : Program} {l : Launch} {e : Env} {R : Room} {s : State} {m : MethodId} {args : Array Value} {below : List Frame} {meth : Method} {c : Code} {H : Heap} {locs : List Loc} {cells slots : Nat} {Q : State → Prop}
variable {pc : Nat} {ls : Array Slot} {rest : List Value}
theorem lv_rel {x y : Int64} (h : x = y) (k : W p l e R s m args below meth c H locs cells slots Q (F0 m pc ls (.long y :: rest))) : W p l e R s m args below meth c H locs cells slots Q (F0 m pc ls (.long x :: rest)) := h ▸ k
end MBL
end
section
/-! orders of a text, as they are read from p on -/
theorem mset_id {M : MS} {k j : Nat} {x : Int32} (h : M k j = x) : mset M k j x = M := by
  funext a b; simp only [mset]; split
  · next e => rw [e.1, e.2, h]
  · rfl
/-- more numbers behind commas: whether well, the place, how many, which -/
def rB (t : Nat → Int32) (len : Nat) : Nat → Nat → Nat → (Nat → Int32) → Bool × Nat × Nat × (Nat → Int32)
  | 0, p, n, w => (true, p, n, w)
  | u + 1, p, n, w => if nxB t len p 44 44 = true then
      (match rN t len (p + 1) with
       | none => (false, p + 1, n, w)
       | some v => rB t len u v.2 (n + 1) (upd w n v.1))
    else (true, p, n, w)
def rP (t : Nat → Int32) (len p : Nat) : Bool × Nat × Int32 × Int32 × Int32 :=
  match rN t len p with
  | none => (false, p, 0, 0, 0)
  | some a => if inB (chr t len a.2) 94 94 = true then
      (match rN t len (a.2 + 1) with
       | none => (false, a.2 + 1, 0, 0, 0)
       | some b => if inB (chr t len b.2) 126 126 = true then
          (if nxB t len (b.2 + 1) 45 45 = true then
            (match rN t len (b.2 + 1 + 1) with
             | none => (false, b.2 + 1 + 1, 0, 0, 0)
             | some c => (true, c.2, a.1, b.1, -c.1))
           else
            (match rN t len (b.2 + 1) with
             | none => (false, b.2 + 1, 0, 0, 0)
             | some c => (true, c.2, a.1, b.1, c.1)))
         else (false, b.2, 0, 0, 0))
    else (false, a.2, 0, 0, 0)
def rBO (one : Int32) (r : Bool × Nat × Nat × (Nat → Int32)) : Bool × Nat × (Int32 × Int32 × Int32) × Nat × (Nat → Int32) := (r.1, r.2.1, (one, 0, 0), r.2.2.1, r.2.2.2)
/-- an order: whether well; the place; its numbers; how many of a beat; which -/
def rO (t : Nat → Int32) (len p : Nat) : Bool × Nat × (Int32 × Int32 × Int32) × Nat × (Nat → Int32) :=
  let c := chr t len p
  if c = 115 then (true, p + 1, (0, 0, 0), 1, fun _ => 0)
  else if c = 97 then (true, p + 1, (0, 0, 0), 1, fun _ => 0)
  else if c = 43 then (let r := rP t len (p + 1); (r.1, r.2.1, r.2.2, 1, fun _ => r.2.2.1))
  else if c = 108 then (match rN t len (p + 1) with
    | none => (false, p + 1, (0, 0, 0), 1, fun _ => 0)
    | some a => (true, a.2, (a.1, 0, 0), 1, fun _ => a.1))
  else if c = 98 then (match rN t len (p + 1) with
    | none => (false, p + 1, (0, 0, 0), 1, fun _ => 0)
    | some a => rBO a.1 (rB t len 40 a.2 1 (fun _ => a.1)))
  else if c = 116 then (match rN t len (p + 1) with
    | none => (false, p + 1, (0, 0, 0), 1, fun _ => 0)
    | some a => (true, a.2, (a.1, 0, 0), 1, fun _ => a.1))
  else (false, p, (0, 0, 0), 1, fun _ => 0)
/-- what the model's table says behind an order that was read -/
def ordP (M M' : MS) (len p : Nat) : Prop :=
  let R := rO (M 6) len p
  (R.1 = true ∧ M' 12 0 = 0 ∧ M' 11 0 = nI R.2.1 ∧ M' 13 0 = chr (M 6) len p ∧ M' 14 0 = R.2.2.1.1 ∧ (chr (M 6) len p = 43 → M' 15 0 = R.2.2.1.2.1 ∧ M' 16 0 = R.2.2.1.2.2) ∧ M' 9 0 = nI R.2.2.2.1 ∧ (∀ j, j < R.2.2.2.1 → M' 8 j = R.2.2.2.2 j) ∧ Pk M M') ∨
  (R.1 = false ∧ M' 12 0 = 1 ∧ M' 11 0 = nI R.2.1 ∧ Pk M M')
theorem Pk.rf (M : MS) : Pk M M := fun _ _ _ _ _ _ _ _ _ => rfl
theorem Pk.set {M N : MS} (h : Pk M N) {k : Nat} (hk : k ∈ [8, 9, 11, 12, 13, 14, 15, 16]) (j : Nat) (x : Int32) : Pk M (mset N k j x) := by
  intro a a8 a9 a11 a12 a13 a14 a15 a16
  simp only [List.mem_cons, List.not_mem_nil, or_false] at hk
  rw [mset_ne _ (by rcases hk with rfl | rfl | rfl | rfl | rfl | rfl | rfl | rfl <;> assumption)]
  exact h a a8 a9 a11 a12 a13 a14 a15 a16
/-- the orders of the pad as clocks and ladders answer them: a fault (0: none), the state then -/
def rowE (f w : Nat → Int32) : Nat → Int32
  | 0 => 0
  | k + 1 => if isCb f (w k) = true then rowE f w k else -1
def exE (f : Nat → Int32) (c one two three : Int32) (L : Nat) (w : Nat → Int32) : Int32 :=
  if c = 43 then hangR f one two three else if c = 108 then lddR f one else if c = 98 then rowE f w L else if c = 116 then passR f one else 0
def exF (f : Nat → Int32) (c one two three : Int32) (L : Nat) (w : Nat → Int32) : Nat → Int32 :=
  if c = 43 then newC f (cn f) one two three else if c = 108 then upd (upd f (8 + ln f) one) 6 (nI (ln f + 1)) else if c = 98 then goFF f w L else if c = 116 then pasF f (ix one) else chgA f (if c = 97 then 1 else 0) (cn f)
theorem ordP_ok {M M' : MS} {len p pl L : Nat} {one two three : Int32} {w : Nat → Int32} (hR : rO (M 6) len p = (true, pl, (one, two, three), L, w)) (h12 : M' 12 0 = 0) (h11 : M' 11 0 = nI pl) (h13 : M' 13 0 = chr (M 6) len p) (h14 : M' 14 0 = one) (h43 : chr (M 6) len p = 43 → M' 15 0 = two ∧ M' 16 0 = three) (h9 : M' 9 0 = nI L) (h8 : ∀ j, j < L → M' 8 j = w j) (hP : Pk M M') : ordP M M' len p := by
  unfold ordP; rw [hR]; exact Or.inl ⟨rfl, h12, h11, h13, h14, h43, h9, h8, hP⟩
theorem ordP_no {M M' : MS} {len p pl : Nat} (hR : (rO (M 6) len p).1 = false ∧ (rO (M 6) len p).2.1 = pl) (h12 : M' 12 0 = 1) (h11 : M' 11 0 = nI pl) (hP : Pk M M') : ordP M M' len p := by
  unfold ordP; exact Or.inr ⟨hR.1, h12, by rw [hR.2]; exact h11, hP⟩
theorem rB_t {t : Nat → Int32} {len n p : Nat} {w : Nat → Int32} {v : Int32} {p' : Nat} (hn : n < 41) (h : nxB t len p 44 44 = true) (hv : rN t len (p + 1) = some (v, p')) : rB t len (41 - n) p n w = rB t len (41 - (n + 1)) p' (n + 1) (upd w n v) := by
  rw [show 41 - n = (41 - (n + 1)) + 1 by omega]
  simp only [rB, h, hv, if_true]
theorem rB_f {t : Nat → Int32} {len n p : Nat} {w : Nat → Int32} (hn : n < 41) (h : nxB t len p 44 44 = true) (hv : rN t len (p + 1) = none) : rB t len (41 - n) p n w = (false, p + 1, n, w) := by
  rw [show 41 - n = (41 - (n + 1)) + 1 by omega]
  simp only [rB, h, hv, if_true]
theorem rB_e {t : Nat → Int32} {len n p : Nat} {w : Nat → Int32} (hn : n < 41) (h : nxB t len p 44 44 = false) : rB t len (41 - n) p n w = (true, p, n, w) := by
  rw [show 41 - n = (41 - (n + 1)) + 1 by omega]
  simp only [rB, h]
  rfl
theorem rowE_0 {f w : Nat → Int32} (W : Wk f) : ∀ L, rowE f w L = 0 → ∀ k, k < L → ∃ i, i < cn f ∧ w k = nI i := by
  intro L
  induction L with
  | zero => intro _ k hk; exact absurd hk (Nat.not_lt_zero _)
  | succ L ih =>
    intro h k hk
    unfold rowE at h
    split at h
    · next h1 =>
      by_cases e : k = L
      · subst e; exact (isC_iff W _).mp h1
      · exact ih h k (by omega)
    · exact absurd h (by decide)
theorem rowE_cases (f w : Nat → Int32) (L : Nat) : rowE f w L = 0 ∨ rowE f w L = -1 := by
  induction L with
  | zero => exact Or.inl rfl
  | succ L ih => unfold rowE; split
                 · exact ih
                 · exact Or.inr rfl
end
section
/-! rows that agree on their first L places; places of an order; the orders of a whole text -/
theorem rowE_congr (f : Nat → Int32) {w v : Nat → Int32} : ∀ L, (∀ j, j < L → w j = v j) → rowE f w L = rowE f v L := by
  intro L
  induction L with
  | zero => intro _; rfl
  | succ L ih => intro h; unfold rowE; rw [h L (by omega), ih (fun j hj => h j (by omega))]
theorem miS_congr (f : Nat → Int32) {w v : Nat → Int32} : ∀ L, (∀ j, j < L → w j = v j) → miS f w L = miS f v L := by
  intro L
  induction L with
  | zero => intro _; rfl
  | succ L ih => intro h; unfold miS; rw [h L (by omega), ih (fun j hj => h j (by omega))]
theorem goF_congr (f : Nat → Int32) {w v : Nat → Int32} : ∀ L, (∀ j, j < L → w j = v j) → goF f w L = goF f v L := by
  intro L
  induction L with
  | zero => intro _; rfl
  | succ L ih => intro h; unfold goF; rw [h L (by omega), ih (fun j hj => h j (by omega))]
theorem goFF_congr (f : Nat → Int32) {w v : Nat → Int32} {L : Nat} (h : ∀ j, j < L → w j = v j) : goFF f w L = goFF f v L := by
  unfold goFF miV; rw [goF_congr f L h, miS_congr f L h]
theorem exE_congr (f : Nat → Int32) {c one two three two' three' : Int32} {L : Nat} {w v : Nat → Int32} (h43 : c = 43 → two = two' ∧ three = three') (h : ∀ j, j < L → w j = v j) : exE f c one two three L w = exE f c one two' three' L v := by
  unfold exE
  by_cases z : c = 43
  · rw [if_pos z, if_pos z, (h43 z).1, (h43 z).2]
  · rw [if_neg z, if_neg z, rowE_congr f L h]
theorem exF_congr (f : Nat → Int32) {c one two three two' three' : Int32} {L : Nat} {w v : Nat → Int32} (h43 : c = 43 → two = two' ∧ three = three') (h : ∀ j, j < L → w j = v j) : exF f c one two three L w = exF f c one two' three' L v := by
  unfold exF
  by_cases z : c = 43
  · rw [if_pos z, if_pos z, (h43 z).1, (h43 z).2]
  · rw [if_neg z, if_neg z, goFF_congr f h]
theorem rN_lt {t : Nat → Int32} {len p : Nat} (h : p ≤ len) : (match rN t len p with | none => p | some a => a.2) ≤ len := by
  split
  · exact h
  · next a e => exact (rN_place (v := a.1) (p' := a.2) (by rw [e])).2.1
theorem rB_place (t : Nat → Int32) (len : Nat) : ∀ u p n w, p ≤ len → (rB t len u p n w).2.1 ≤ len ∧ p ≤ (rB t len u p n w).2.1 := by
  intro u
  induction u with
  | zero => intro p n w h; exact ⟨h, Nat.le_refl _⟩
  | succ u ih =>
    intro p n w h
    unfold rB
    split
    · next h1 =>
      have h2 := (nxB_t.mp h1).1
      split
      · exact ⟨h2, by show p ≤ p + 1; omega⟩
      · next v e =>
        have h3 := rN_place (v := v.1) (p' := v.2) (by rw [e])
        have h4 := ih v.2 (n + 1) (upd w n v.1) h3.2.1
        exact ⟨h4.1, by omega⟩
    · exact ⟨h, Nat.le_refl _⟩
theorem rP_place (t : Nat → Int32) (len p : Nat) (h : p ≤ len) : (rP t len p).2.1 ≤ len ∧ p ≤ (rP t len p).2.1 := by
  unfold rP
  split
  · exact ⟨h, Nat.le_refl _⟩
  · next a e =>
    have h1 := rN_place (v := a.1) (p' := a.2) (by rw [e])
    split
    · next h2 =>
      have h2' := chr_pos h2 (by decide)
      split
      · exact ⟨h2', by show p ≤ a.2 + 1; omega⟩
      · next b e2 =>
        have h3 := rN_place (v := b.1) (p' := b.2) (by rw [e2])
        split
        · next h4 =>
          have h4' := chr_pos h4 (by decide)
          split
          · next h5 =>
            have h5' := (nxB_t.mp h5).1
            split
            · exact ⟨h5', by show p ≤ b.2 + 1 + 1; omega⟩
            · next c e3 =>
              have h6 := rN_place (v := c.1) (p' := c.2) (by rw [e3])
              exact ⟨h6.2.1, by show p ≤ c.2; omega⟩
          · split
            · exact ⟨h4', by show p ≤ b.2 + 1; omega⟩
            · next c e3 =>
              have h6 := rN_place (v := c.1) (p' := c.2) (by rw [e3])
              exact ⟨h6.2.1, by show p ≤ c.2; omega⟩
        · exact ⟨h3.2.1, by show p ≤ b.2; omega⟩
    · exact ⟨h1.2.1, by show p ≤ a.2; omega⟩
theorem rO_place (t : Nat → Int32) (len p : Nat) (h : p ≤ len) : (rO t len p).2.1 ≤ len ∧ p ≤ (rO t len p).2.1 ∧ ((rO t len p).1 = true → p < (rO t len p).2.1) := by
  by_cases hp : p < len
  · unfold rO
    dsimp only
    split
    · exact ⟨hp, by show p ≤ p + 1; omega, fun _ => Nat.lt_succ_self p⟩
    · split
      · exact ⟨hp, by show p ≤ p + 1; omega, fun _ => Nat.lt_succ_self p⟩
      · split
        · have := rP_place t len (p + 1) hp
          exact ⟨this.1, by show p ≤ (rP t len (p + 1)).2.1; omega, fun _ => by show p < (rP t len (p + 1)).2.1; omega⟩
        · split
          · split
            · exact ⟨hp, by show p ≤ p + 1; omega, fun z => by cases z⟩
            · next a e =>
              have h1 := rN_place (v := a.1) (p' := a.2) (by rw [e])
              exact ⟨h1.2.1, by show p ≤ a.2; omega, fun _ => by show p < a.2; omega⟩
          · split
            · split
              · exact ⟨hp, by show p ≤ p + 1; omega, fun z => by cases z⟩
              · next a e =>
                have h1 := rN_place (v := a.1) (p' := a.2) (by rw [e])
                have h2 := rB_place t len 40 a.2 1 (fun _ => a.1) h1.2.1
                exact ⟨h2.1, by show p ≤ (rB t len 40 a.2 1 (fun _ => a.1)).2.1; omega, fun _ => by show p < (rB t len 40 a.2 1 (fun _ => a.1)).2.1; omega⟩
            · split
              · split
                · exact ⟨hp, by show p ≤ p + 1; omega, fun z => by cases z⟩
                · next a e =>
                  have h1 := rN_place (v := a.1) (p' := a.2) (by rw [e])
                  exact ⟨h1.2.1, by show p ≤ a.2; omega, fun _ => by show p < a.2; omega⟩
              · exact ⟨h, Nat.le_refl _, fun z => by cases z⟩
  · have ec : chr t len p = 0 := chr_out (by omega)
    have e : rO t len p = (false, p, (0, 0, 0), 1, fun _ => 0) := by simp [rO, ec]
    rw [e]
    exact ⟨h, Nat.le_refl _, fun z => by cases z⟩
/-- the fault of a text from p on -/
def gF (t : Nat → Int32) (len : Nat) : Nat → Nat → Option Nat
  | 0, _ => none
  | u + 1, p => if (rO t len p).1 = true then (if (rO t len p).2.1 < len then (if inB (chr t len (rO t len p).2.1) 59 59 = true then gF t len u ((rO t len p).2.1 + 1) else some (rO t len p).2.1) else none) else some (rO t len p).2.1
def exE' (t : Nat → Int32) (len p : Nat) (f : Nat → Int32) : Int32 := let R := (rO t len p).2.2; exE f (chr t len p) R.1.1 R.1.2.1 R.1.2.2 R.2.1 R.2.2
def exF' (t : Nat → Int32) (len p : Nat) (f : Nat → Int32) : Nat → Int32 := let R := (rO t len p).2.2; exF f (chr t len p) R.1.1 R.1.2.1 R.1.2.2 R.2.1 R.2.2
/-- the orders carried out from p on: how many, the state then -/
def cO (t : Nat → Int32) (len : Nat) : Nat → Nat → (Nat → Int32) → Nat × (Nat → Int32)
  | 0, _, f => (0, f)
  | u + 1, p, f => if exE' t len p f = 0 then
      (if (rO t len p).2.1 < len then ((cO t len u ((rO t len p).2.1 + 1) (exF' t len p f)).1 + 1, (cO t len u ((rO t len p).2.1 + 1) (exF' t len p f)).2) else (1, exF' t len p f))
    else (0, f)
/-- all but the state and what reading changes -/
def Pk0 (M M' : MS) : Prop := ∀ k, k ≠ 0 → k ≠ 8 → k ≠ 9 → k ≠ 11 → k ≠ 12 → k ≠ 13 → k ≠ 14 → k ≠ 15 → k ≠ 16 → M' k = M k
theorem Pk.pk0 {M N : MS} (h : Pk M N) : Pk0 M N := fun k _ a b c d e f g i => h k a b c d e f g i
theorem Pk0.trans {M N O : MS} (h : Pk0 M N) (h2 : Pk0 N O) : Pk0 M O := fun k z a b c d e f g i => (h2 k z a b c d e f g i).trans (h k z a b c d e f g i)
theorem Pk.trans {M N O : MS} (h : Pk M N) (h2 : Pk N O) : Pk M O := fun k a b c d e f g i => (h2 k a b c d e f g i).trans (h k a b c d e f g i)
theorem Pk0.ms {M N : MS} (h : Pk0 M N) (f : Nat → Int32) : Pk0 M (ms0 N f) := fun k z a b c d e f g i => by rw [ms0_k _ _ z]; exact h k z a b c d e f g i
theorem Pk0.set {M N : MS} (h : Pk0 M N) {k : Nat} (hk : k ∈ [8, 9, 11, 12, 13, 14, 15, 16]) (j : Nat) (x : Int32) : Pk0 M (mset N k j x) := by
  intro a a0 a8 a9 a11 a12 a13 a14 a15 a16
  simp only [List.mem_cons, List.not_mem_nil, or_false] at hk
  rw [mset_ne _ (by rcases hk with rfl | rfl | rfl | rfl | rfl | rfl | rfl | rfl <;> assumption)]
  exact h a a0 a8 a9 a11 a12 a13 a14 a15 a16
theorem rO_len (t : Nat → Int32) (len p : Nat) (h : p ≤ len) (hl : len ≤ 80) : (rO t len p).2.2.2.1 ≤ 80 := by
  have key : ∀ u q n w, n + u ≤ 41 → (rB t len u q n w).2.2.1 ≤ 41 := by
    intro u
    induction u with
    | zero => intro q n w h; exact h
    | succ u ih =>
      intro q n w h
      unfold rB
      split
      · split
        · show n ≤ 41; omega
        · exact ih _ _ _ (by omega)
      · show n ≤ 41; omega
  have one : ∀ (x y : Bool × Nat × (Int32 × Int32 × Int32) × Nat × (Nat → Int32)) (P : Prop) [Decidable P], x.2.2.2.1 ≤ 80 → y.2.2.2.1 ≤ 80 → (if P then x else y).2.2.2.1 ≤ 80 := by
    intro x y P _ h1 h2; split
    · exact h1
    · exact h2
  have o1 : 1 ≤ 80 := by decide
  unfold rO
  dsimp only
  refine one _ _ _ o1 (one _ _ _ o1 (one _ _ _ o1 (one _ _ _ ?_ (one _ _ _ ?_ (one _ _ _ ?_ o1)))))
  · split <;> exact o1
  · split
    · exact o1
    · exact Nat.le_trans (key 40 _ 1 _ (by omega)) (by decide)
  · split <;> exact o1
theorem Wk_exF {f w : Nat → Int32} {c one two three : Int32} {L : Nat} (W : Wk f) (h : exE f c one two three L w = 0) : Wk (exF f c one two three L w) := by
  unfold exE at h
  unfold exF
  by_cases h1 : c = 43
  · rw [if_pos h1] at h ⊢
    have h2 := hangR_0 (f := f) (h := one) (u := two) (d := three) (by rw [h]; decide)
    have hn : cn f < 16 := by have := W.2.1; have := h2.2.2.2.2; omega
    have e5 : newC f (cn f) one two three 5 = nI (cn f + 1) := by unfold newC; exact upd_self
    have e6 : newC f (cn f) one two three 6 = f 6 := by
      unfold newC
      rw [upd_ne (by decide), upd_ne (by omega), upd_ne (by omega), upd_ne (by omega), upd_ne (by omega)]
      exact if_neg (by omega)
    have c5 : cn (newC f (cn f) one two three) = cn f + 1 := by unfold cn at hn ⊢; rw [show newC f (f 5).toNatClampNeg one two three 5 = _ from e5]; exact nI_clamp (by unfold cn; omega)
    have l6 : ln (newC f (cn f) one two three) = ln f := by unfold ln; rw [e6]
    exact ⟨by rw [e5, c5], by rw [c5]; omega, by rw [e6, l6]; exact W.2.2.1, by rw [l6]; exact W.2.2.2⟩
  · rw [if_neg h1] at h ⊢
    by_cases h3 : c = 108
    · rw [if_pos h3] at h ⊢
      have h2 := lddR_0 (f := f) (u := one) (by rw [h]; decide)
      have hn : ln f < 4 := by have := W.2.2.2; have := h2.2.2; omega
      have e5 : upd (upd f (8 + ln f) one) 6 (nI (ln f + 1)) 5 = f 5 := by rw [upd_ne (by decide), upd_ne (by omega)]
      have e6 : upd (upd f (8 + ln f) one) 6 (nI (ln f + 1)) 6 = nI (ln f + 1) := upd_self
      have c5 : cn (upd (upd f (8 + ln f) one) 6 (nI (ln f + 1))) = cn f := by unfold cn; rw [e5]
      have l6 : ln (upd (upd f (8 + ln f) one) 6 (nI (ln f + 1))) = ln f + 1 := by unfold ln; rw [show upd (upd f (8 + (f 6).toNatClampNeg) one) 6 (nI ((f 6).toNatClampNeg + 1)) 6 = _ from e6]; exact nI_clamp (by unfold ln at *; omega)
      exact ⟨by rw [e5, c5]; exact W.1, by rw [c5]; exact W.2.1, by rw [e6, l6], by rw [l6]; omega⟩
    · rw [if_neg h3] at h ⊢
      by_cases h4 : c = 98
      · rw [if_pos h4]
        exact (W.congr (by unfold goFF; rw [upd_ne (by decide), goF_lo _ _ _ (by decide)]) (by unfold goFF; rw [upd_ne (by decide), goF_lo _ _ _ (by decide)])).1
      · rw [if_neg h4]
        by_cases h5 : c = 116
        · rw [if_pos h5]
          exact (W.congr (by unfold pasF; rw [upd_ne (by decide), passD_lo _ _ (by decide)]) (by unfold pasF; rw [upd_ne (by decide), passD_lo _ _ (by decide)])).1
        · rw [if_neg h5]
          exact (W.congr (chgA_lo _ _ _ (by decide)) (chgA_lo _ _ _ (by decide))).1
theorem gF_no {t : Nat → Int32} {len u p : Nat} (h : (rO t len p).1 = false) : gF t len (u + 1) p = some (rO t len p).2.1 := by simp [gF, h]
theorem gF_end {t : Nat → Int32} {len u p : Nat} (h : (rO t len p).1 = true) (h2 : ¬ (rO t len p).2.1 < len) : gF t len (u + 1) p = none := by simp only [gF, if_pos h, if_neg h2]
theorem gF_sep {t : Nat → Int32} {len u p : Nat} (h : (rO t len p).1 = true) (h2 : (rO t len p).2.1 < len) (h3 : inB (chr t len (rO t len p).2.1) 59 59 = false) : gF t len (u + 1) p = some (rO t len p).2.1 := by simp [gF, h, h2, h3]
theorem gF_go {t : Nat → Int32} {len u p : Nat} (h : (rO t len p).1 = true) (h2 : (rO t len p).2.1 < len) (h3 : inB (chr t len (rO t len p).2.1) 59 59 = true) : gF t len (u + 1) p = gF t len u ((rO t len p).2.1 + 1) := by simp [gF, h, h2, h3]
theorem cO_no {t : Nat → Int32} {len u p : Nat} {f : Nat → Int32} (h : exE' t len p f ≠ 0) : cO t len (u + 1) p f = (0, f) := by simp [cO, h]
theorem cO_end {t : Nat → Int32} {len u p : Nat} {f : Nat → Int32} (h : exE' t len p f = 0) (h2 : ¬ (rO t len p).2.1 < len) : cO t len (u + 1) p f = (1, exF' t len p f) := by simp only [cO, if_pos h, if_neg h2]
theorem cO_go {t : Nat → Int32} {len u p : Nat} {f : Nat → Int32} (h : exE' t len p f = 0) (h2 : (rO t len p).2.1 < len) : cO t len (u + 1) p f = ((cO t len u ((rO t len p).2.1 + 1) (exF' t len p f)).1 + 1, (cO t len u ((rO t len p).2.1 + 1) (exF' t len p f)).2) := by simp only [cO, if_pos h, if_pos h2]
end
section
/-! the class's cells: 212 of them, by number; the numbers in one table C (rows 0..9: the States, laid out as the model's; 10: lengths and counters; 11 slotHolds; 12 signs; 13, 14 the numbers of the two Rows; 15 lasting); pi: which State the history's places hold -/
def cE (ad : Nat → Nat) (g : Nat → ClassId) (pi : Nat → Nat) (C : MS) (i : Nat) : va_E :=
  if i < 11 then
    (match i with
     | 0 => .inr (5, [.ref (ad (11 + 20 * 0)), .ref (ad 1), .ref (ad 3), .ref (ad 4), .ref (ad 5), .ref (ad 9), .ref (ad 211)])
     | 1 => .inr (1, [.ref (ad 2), .int (C 10 0)])
     | 2 => .inl (g 4, 7, .inr (.inr (.inr (.inr (fun j => some (ad (11 + 20 * pi j)))))))
     | 3 => .inl (g 4, 2, .inr (.inr (.inr (.inr (fun j => some (ad (11 + 20 * (8 + j))))))))
     | 4 => .inl (g 2, 2, .inl (C 11))
     | 5 => .inr (2, [.ref (ad 6), .ref (ad 7), .int (C 10 1), .int (C 10 2), .int (C 10 3)])
     | 6 => .inl (g 1, 80, .inl (C 12))
     | 7 => .inr (3, [.ref (ad 8), .int (C 10 4)])
     | 8 => .inl (g 0, 40, .inl (C 13))
     | 9 => .inr (3, [.ref (ad 10), .int (C 10 5)])
     | _ => .inl (g 0, 40, .inl (C 14)))
  else if i = 211 then .inl (g 0, 16, .inl (C 15))
  else
    if (i - 11) % 20 = 0 then .inr (4, [.ref (ad (12 + 20 * ((i - 11) / 20))), .ref (ad (13 + 20 * ((i - 11) / 20))), .ref (ad (14 + 20 * ((i - 11) / 20))), .int (C ((i - 11) / 20) 5), .int (C ((i - 11) / 20) 6), .int (C ((i - 11) / 20) 4), .int (C ((i - 11) / 20) 7)])
    else if (i - 11) % 20 = 1 then .inl (g 0, 4, .inl (fun j => if j < 4 then C ((i - 11) / 20) j else 0))
    else if (i - 11) % 20 = 2 then .inl (g 3, 16, .inr (.inr (.inr (.inr (fun j => some (ad (15 + 20 * ((i - 11) / 20) + j)))))))
    else if (i - 11) % 20 = 3 then .inl (g 0, 4, .inl (fun j => if j < 4 then C ((i - 11) / 20) (8 + j) else 0))
    else .inr (0, [.int (C ((i - 11) / 20) (12 + 8 * ((i - 11) % 20 - 4) + 0)), .int (C ((i - 11) / 20) (12 + 8 * ((i - 11) % 20 - 4) + 1)), .int (C ((i - 11) / 20) (12 + 8 * ((i - 11) % 20 - 4) + 2)), .int (C ((i - 11) / 20) (12 + 8 * ((i - 11) % 20 - 4) + 3)), .int (C ((i - 11) / 20) (12 + 8 * ((i - 11) % 20 - 4) + 4)), .int (C ((i - 11) / 20) (12 + 8 * ((i - 11) % 20 - 4) + 5)), .int (C ((i - 11) / 20) (12 + 8 * ((i - 11) % 20 - 4) + 7)), .int (C ((i - 11) / 20) (12 + 8 * ((i - 11) % 20 - 4) + 6))])
section CE
variable {ad : Nat → Nat} {g : Nat → ClassId} {pi : Nat → Nat} {C : MS} {k c : Nat}
theorem cE_0 : cE ad g pi C 0 = .inr (5, [.ref (ad (11 + 20 * 0)), .ref (ad 1), .ref (ad 3), .ref (ad 4), .ref (ad 5), .ref (ad 9), .ref (ad 211)]) := rfl
theorem cE_1 : cE ad g pi C 1 = .inr (1, [.ref (ad 2), .int (C 10 0)]) := rfl
theorem cE_2 : cE ad g pi C 2 = .inl (g 4, 7, .inr (.inr (.inr (.inr (fun j => some (ad (11 + 20 * pi j))))))) := rfl
theorem cE_3 : cE ad g pi C 3 = .inl (g 4, 2, .inr (.inr (.inr (.inr (fun j => some (ad (11 + 20 * (8 + j)))))))) := rfl
theorem cE_4 : cE ad g pi C 4 = .inl (g 2, 2, .inl (C 11)) := rfl
theorem cE_5 : cE ad g pi C 5 = .inr (2, [.ref (ad 6), .ref (ad 7), .int (C 10 1), .int (C 10 2), .int (C 10 3)]) := rfl
theorem cE_6 : cE ad g pi C 6 = .inl (g 1, 80, .inl (C 12)) := rfl
theorem cE_7 : cE ad g pi C 7 = .inr (3, [.ref (ad 8), .int (C 10 4)]) := rfl
theorem cE_8 : cE ad g pi C 8 = .inl (g 0, 40, .inl (C 13)) := rfl
theorem cE_9 : cE ad g pi C 9 = .inr (3, [.ref (ad 10), .int (C 10 5)]) := rfl
theorem cE_10 : cE ad g pi C 10 = .inl (g 0, 40, .inl (C 14)) := rfl
theorem cE_211 : cE ad g pi C 211 = .inl (g 0, 16, .inl (C 15)) := rfl
theorem cE_st (hk : k < 10 := by omega) : cE ad g pi C (11 + 20 * k) = .inr (4, [.ref (ad (12 + 20 * k)), .ref (ad (13 + 20 * k)), .ref (ad (14 + 20 * k)), .int (C k 5), .int (C k 6), .int (C k 4), .int (C k 7)]) := by
  unfold cE
  rw [if_neg (by omega), if_neg (by omega), show (11 + 20 * k - 11) / 20 = k by omega, if_pos (by omega)]
theorem cE_se : cE ad g pi C (12 + 20 * k) = .inl (g 0, 4, .inl (fun j => if j < 4 then C k j else 0)) := by
  unfold cE
  rw [if_neg (by omega), if_neg (by omega), show (12 + 20 * k - 11) / 20 = k by omega, if_neg (by omega), if_pos (by omega)]
theorem cE_ck : cE ad g pi C (13 + 20 * k) = .inl (g 3, 16, .inr (.inr (.inr (.inr (fun j => some (ad (15 + 20 * k + j))))))) := by
  unfold cE
  rw [if_neg (by omega), if_neg (by omega), show (13 + 20 * k - 11) / 20 = k by omega, if_neg (by omega), if_neg (by omega), if_pos (by omega)]
theorem cE_la : cE ad g pi C (14 + 20 * k) = .inl (g 0, 4, .inl (fun j => if j < 4 then C k (8 + j) else 0)) := by
  unfold cE
  rw [if_neg (by omega), if_neg (by omega), show (14 + 20 * k - 11) / 20 = k by omega, if_neg (by omega), if_neg (by omega), if_neg (by omega), if_pos (by omega)]
theorem cE_cl (hc : c < 16) : cE ad g pi C (15 + 20 * k + c) = .inr (0, [.int (C k (12 + 8 * c + 0)), .int (C k (12 + 8 * c + 1)), .int (C k (12 + 8 * c + 2)), .int (C k (12 + 8 * c + 3)), .int (C k (12 + 8 * c + 4)), .int (C k (12 + 8 * c + 5)), .int (C k (12 + 8 * c + 7)), .int (C k (12 + 8 * c + 6))]) := by
  unfold cE
  rw [if_neg (by omega), if_neg (by omega), show (15 + 20 * k + c - 11) / 20 = k by omega, show (15 + 20 * k + c - 11) % 20 = 4 + c by omega, if_neg (by omega), if_neg (by omega), if_neg (by omega), if_neg (by omega), show 4 + c - 4 = c by omega]
end CE
/-- which cell holds a number -/
def own (a b : Nat) : Nat :=
  if a = 10 then (if b = 0 then 1 else if b < 4 then 5 else if b = 4 then 7 else if b = 5 then 9 else 1000)
  else if a = 11 then 4 else if a = 12 then 6 else if a = 13 then 8 else if a = 14 then 10 else if a = 15 then 211 else if 10 ≤ a then 1000
  else if b < 4 then 12 + 20 * a else if b < 8 then 11 + 20 * a else if b < 12 then 14 + 20 * a else if b < 140 then 15 + 20 * a + (b - 12) / 8 else 1000
theorem own_lo {a b : Nat} (h : a < 10) : own a b = if b < 4 then 12 + 20 * a else if b < 8 then 11 + 20 * a else if b < 12 then 14 + 20 * a else if b < 140 then 15 + 20 * a + (b - 12) / 8 else 1000 := by
  unfold own
  rw [if_neg (by omega), if_neg (by omega), if_neg (by omega), if_neg (by omega), if_neg (by omega), if_neg (by omega), if_neg (by omega)]
theorem own_cl {k c w : Nat} (hk : k < 10) (hc : c < 16) (hw : w < 8) : own k (12 + 8 * c + w) = 15 + 20 * k + c := by
  rw [own_lo hk, if_neg (by omega), if_neg (by omega), if_neg (by omega), if_pos (by omega), show (12 + 8 * c + w - 12) / 8 = c by omega]
theorem cE_own {ad : Nat → Nat} {g : Nat → ClassId} {pi : Nat → Nat} {C C' : MS} {i : Nat} (hi : i < 212) (h : ∀ a b, own a b = i → C' a b = C a b) : cE ad g pi C' i = cE ad g pi C i := by
  by_cases h11 : i < 11
  · rcases (show i = 0 ∨ i = 1 ∨ i = 2 ∨ i = 3 ∨ i = 4 ∨ i = 5 ∨ i = 6 ∨ i = 7 ∨ i = 8 ∨ i = 9 ∨ i = 10 by omega) with rfl | rfl | rfl | rfl | rfl | rfl | rfl | rfl | rfl | rfl | rfl
    · rfl
    · rw [cE_1, cE_1, h 10 0 (by decide)]
    · rfl
    · rfl
    · rw [cE_4, cE_4, show C' 11 = C 11 from funext fun b => h 11 b (by simp [own])]
    · rw [cE_5, cE_5, h 10 1 (by decide), h 10 2 (by decide), h 10 3 (by decide)]
    · rw [cE_6, cE_6, show C' 12 = C 12 from funext fun b => h 12 b (by simp [own])]
    · rw [cE_7, cE_7, h 10 4 (by decide)]
    · rw [cE_8, cE_8, show C' 13 = C 13 from funext fun b => h 13 b (by simp [own])]
    · rw [cE_9, cE_9, h 10 5 (by decide)]
    · rw [cE_10, cE_10, show C' 14 = C 14 from funext fun b => h 14 b (by simp [own])]
  by_cases h211 : i = 211
  · subst h211
    rw [cE_211, cE_211, show C' 15 = C 15 from funext fun b => h 15 b (by simp [own])]
  · obtain ⟨k, r, hr, rfl⟩ : ∃ k r, r < 20 ∧ i = 11 + 20 * k + r := ⟨(i - 11) / 20, (i - 11) % 20, Nat.mod_lt _ (by decide), by omega⟩
    have hk : k < 10 := by omega
    by_cases r0 : r = 0
    · subst r0
      rw [show 11 + 20 * k + 0 = 11 + 20 * k by omega, cE_st, cE_st, h k 5 (by rw [own_lo hk]; simp), h k 6 (by rw [own_lo hk]; simp), h k 4 (by rw [own_lo hk]; simp), h k 7 (by rw [own_lo hk]; simp)]
    by_cases r1 : r = 1
    · subst r1
      rw [show 11 + 20 * k + 1 = 12 + 20 * k by omega, cE_se, cE_se]
      have e : (fun j => if j < 4 then C' k j else 0) = (fun j => if j < 4 then C k j else 0) := by
        funext j; by_cases z : j < 4
        · rw [if_pos z, if_pos z]; exact h k j (by rw [own_lo hk, if_pos z]; omega)
        · rw [if_neg z, if_neg z]
      rw [e]
    by_cases r2 : r = 2
    · subst r2
      rw [show 11 + 20 * k + 2 = 13 + 20 * k by omega, cE_ck, cE_ck]
    by_cases r3 : r = 3
    · subst r3
      rw [show 11 + 20 * k + 3 = 14 + 20 * k by omega, cE_la, cE_la]
      have e : (fun j => if j < 4 then C' k (8 + j) else 0) = (fun j => if j < 4 then C k (8 + j) else 0) := by
        funext j; by_cases z : j < 4
        · rw [if_pos z, if_pos z]; exact h k (8 + j) (by rw [own_lo hk, if_neg (by omega), if_neg (by omega), if_pos (by omega)]; omega)
        · rw [if_neg z, if_neg z]
      rw [e]
    obtain ⟨c, rfl⟩ : ∃ c, r = 4 + c := ⟨r - 4, by omega⟩
    have hc : c < 16 := by omega
    have e : ∀ w, w < 8 → C' k (12 + 8 * c + w) = C k (12 + 8 * c + w) := fun w hw => h k _ (by rw [own_cl hk hc hw]; omega)
    rw [show 11 + 20 * k + (4 + c) = 15 + 20 * k + c by omega, cE_cl hc, cE_cl hc, e 0 (by decide), e 1 (by decide), e 2 (by decide), e 3 (by decide), e 4 (by decide), e 5 (by decide), e 6 (by decide), e 7 (by decide)]
def cW (g : Nat → ClassId) (ad pi : Nat → Nat) (C : MS) : va_W := (List.range 212).map (fun i => (ad i, cE ad g pi C i))
def cP (dd : va_G) (g : Nat → ClassId) (ad pi : Nat → Nat) (H : Heap) (C : MS) : Prop := va_P dd vwCl (cW g ad pi C) H
def cA (A : Nat → Prop) (ad : Nat → Nat) : Prop := (∀ i j : Nat, i < 212 → j < 212 → ad i = ad j → i = j) ∧ ∀ i : Nat, i < 212 → A (ad i)
theorem cW_get {g : Nat → ClassId} {ad pi : Nat → Nat} {C : MS} {i : Nat} (h : i < 212) : (cW g ad pi C)[i]? = some (ad i, cE ad g pi C i) := by
  unfold cW; rw [List.getElem?_map, List.getElem?_range h]; rfl
theorem cW_at {g : Nat → ClassId} {ad pi : Nat → Nat} {C : MS} {i : Nat} {x : Nat × va_E} (h : (cW g ad pi C)[i]? = some x) : i < 212 ∧ x = (ad i, cE ad g pi C i) := by
  have hi : i < 212 := by
    have := (List.getElem?_eq_some_iff.mp h).1
    simpa [cW] using this
  rw [cW_get hi] at h
  exact ⟨hi, (Option.some.inj h).symm⟩
theorem cA.D {A : Nat → Prop} {ad : Nat → Nat} (h : cA A ad) (g : Nat → ClassId) (pi : Nat → Nat) (C : MS) : va_D A (cW g ad pi C) := by
  refine ⟨fun i j x y hx hy e => ?_, fun k x hx => ?_⟩
  · obtain ⟨hi, ei⟩ := cW_at hx
    obtain ⟨hj, ej⟩ := cW_at hy
    subst ei; subst ej
    exact h.1 i j hi hj e
  · obtain ⟨hi, ei⟩ := cW_at hx
    subst ei
    exact h.2 k hi
/-- one cell is written -/
theorem cP_set {dd : va_G} {g : Nat → ClassId} {ad pi pi' : Nat → Nat} {H : Heap} {C C' : MS} {i : Nat} {e : va_E} (h : va_P dd vwCl ((cW g ad pi C).set i (ad i, e)) H) (hi : cE ad g pi' C' i = e) (ho : ∀ j, j < 212 → j ≠ i → cE ad g pi' C' j = cE ad g pi C j) : cP dd g ad pi' H C' := by
  intro j x hx
  obtain ⟨hj, ex⟩ := cW_at hx
  subst ex
  by_cases hji : j = i
  · subst hji
    have hl : j < (cW g ad pi C).length := by simp [cW, hj]
    have := h j (ad j, e) (by rw [List.getElem?_set_self hl])
    rw [hi]; exact this
  · have := h j (ad j, cE ad g pi C j) (by rw [List.getElem?_set_ne (Ne.symm hji)]; exact cW_get hj)
    rw [ho j hj hji]; exact this
theorem cP_mset {dd : va_G} {g : Nat → ClassId} {ad pi : Nat → Nat} {H : Heap} {C : MS} {i k j : Nat} {x : Int32} {e : va_E} (h : va_P dd vwCl ((cW g ad pi C).set i (ad i, e)) H) (hi : cE ad g pi (mset C k j x) i = e) (ho : own k j = i) : cP dd g ad pi H (mset C k j x) := by
  refine cP_set h hi (fun a ha hne => cE_own ha (fun u v huv => ?_))
  simp only [mset]
  rw [if_neg]
  rintro ⟨rfl, rfl⟩
  exact hne (huv.symm.trans ho)
/-- the class's environment: what its methods' words don't say (links to nest mates; the table of the greatest settings) -/
def cX (A : Nat → Prop) (U : State) : Prop := va_Nw (.methodLinkNest RX4 54 yX5_isWithin "WinderLadders") U ∧ va_Nw (.fieldLinkNest RX4 51 "WinderLadders" "MOST_SETTINGS" "[I" "WinderLadders") U ∧ ∃ t : Nat, va_Z "WinderLadders" "MOST_SETTINGS" "[I" (.ref t) A U U.heap ∧ va_T .int t 4 (fun j => .int (if j = 0 then 999 else 30)) A U U.heap
theorem cX.moved {A : Nat → Prop} {s U : State} {H : Heap} {locs : List Loc} (h : cX A s) (hS : va_S A s.heap H locs) (hU : U.heap = H) (hW : s.WarmedH U.vm) : cX A U := by
  obtain ⟨h1, h0, t, h2, h3⟩ := h
  refine ⟨h1.warmM hW, h0.warmF hW, t, ?_, ?_⟩
  · rw [hU]; exact (h2.kept hS.2.1).moved hW.alike
  · rw [hU]; exact (h3.kept hS.2.1).moved hW.alike
def cI (dd : va_G) (g : Nat → ClassId) (ad pi : Nat → Nat) (A : Nat → Prop) (H0 H : Heap) (locs : List Loc) (C : MS) : Prop := cP dd g ad pi H C ∧ va_S A H0 H locs
def cPre (dd : va_G) (g : Nat → ClassId) (ad pi : Nat → Nat) (A : Nat → Prop) (C : MS) (av : List Value) : Array Value → State → Prop := va_Pc av (fun U => cP dd g ad pi U.heap C ∧ va_K dd vwCl (tysW g) U ∧ cX A U)
def cQi (dd : va_G) (g : Nat → ClassId) (ad : Nat → Nat) (A : Nat → Prop) (post : Int32 → MS → (Nat → Nat) → Prop) : Array Value → State → Outcome → State → Prop := va_Qi (fun r (u : MS × (Nat → Nat)) => post r u.1 u.2) (fun u t => cP dd g ad u.2 t.heap u.1) A
def cQv (dd : va_G) (g : Nat → ClassId) (ad : Nat → Nat) (A : Nat → Prop) (post : MS → (Nat → Nat) → Prop) : Array Value → State → Outcome → State → Prop := va_Qv (fun (u : MS × (Nat → Nat)) => post u.1 u.2) (fun u t => cP dd g ad u.2 t.heap u.1) A
theorem cX.same {A : Nat → Prop} {s U : State} (h : cX A s) (hh : U.heap = s.heap) (hv : s.vm = U.vm) : cX A U := by
  obtain ⟨h1, h0, t, h2, h3⟩ := h
  refine ⟨h1.same rfl hv, h0.same rfl hv, t, ?_, ?_⟩
  · rw [hh]; exact h2.moved (hv ▸ Vm.Alike.refl s.vm)
  · rw [hh]; exact h3.moved (hv ▸ Vm.Alike.refl s.vm)
theorem cPre_blind (dd : va_G) (g : Nat → ClassId) (ad pi : Nat → Nat) (A : Nat → Prop) (C : MS) (av : List Value) : FrameBlind (cPre dd g ad pi A C av) := fun a U gg mk h => by
  obtain ⟨h0, hP, hK, hX⟩ := h
  exact ⟨h0, hP, va_K.moved (u := U) (U := U.calling gg mk a) (Vm.Alike.refl U.vm) hK, hX.same rfl rfl⟩
end
section
/-! what the class's clocks do -/
theorem jabs_eq (x : Int32) : (if 0 ≤ x then x else 0 - x) = jabs x := by
  unfold jabs; rw [Int32.zero_sub]
def jmax (x y : Int32) : Int32 := if x < y then y else x
theorem mrow_mrow (M : MS) (k : Nat) (f h : Nat → Int32) : mrow (mrow M k f) k h = mrow M k h := by
  funext a; simp only [mrow]; split <;> rfl
def dayC (f : Nat → Int32) (c : Nat) (wd : Int32) : Nat → Int32 :=
  if f (12 + 8 * c + 6) = 0 then
    (if f (12 + 8 * c + 5) + 1 ≤ wd then upd f (12 + 8 * c + 5) (f (12 + 8 * c + 5) + 1)
     else upd (upd (upd f (12 + 8 * c + 5) (f (12 + 8 * c + 5) + 1)) (12 + 8 * c + 6) 0) (12 + 8 * c + 4) 43200)
  else
    (if f (12 + 8 * c + 5) + 1 ≤ wd then upd (upd f (12 + 8 * c + 4) (f (12 + 8 * c + 4) + rt f c)) (12 + 8 * c + 5) (f (12 + 8 * c + 5) + 1)
     else upd (upd (upd (upd f (12 + 8 * c + 4) (f (12 + 8 * c + 4) + rt f c)) (12 + 8 * c + 5) (f (12 + 8 * c + 5) + 1)) (12 + 8 * c + 6) 0) (12 + 8 * c + 4) 43200)
def begC (f : Nat → Int32) (c : Nat) (h u d : Int32) : Nat → Int32 := upd (upd (upd (upd (upd (upd (upd (upd f (12 + 8 * c + 0) h) (12 + 8 * c + 1) u) (12 + 8 * c + 2) d) (12 + 8 * c + 3) 0) (12 + 8 * c + 4) 0) (12 + 8 * c + 5) 0) (12 + 8 * c + 7) 0) (12 + 8 * c + 6) 1
def turC (f : Nat → Int32) (c : Nat) : Nat → Int32 :=
  if rt f c ≤ 0 then (if 0 ≤ rt f c then f else (if 20 ≤ f (12 + 8 * c + 3) then f else upd f (12 + 8 * c + 3) (f (12 + 8 * c + 3) + 1)))
  else (if f (12 + 8 * c + 3) ≤ -20 then (if 0 ≤ rt f c then f else (if 20 ≤ f (12 + 8 * c + 3) then f else upd f (12 + 8 * c + 3) (f (12 + 8 * c + 3) + 1))) else upd f (12 + 8 * c + 3) (f (12 + 8 * c + 3) - 1))
def setC (h : Nat → Int32) (c : Nat) : Nat → Int32 := upd (upd (upd (upd h (12 + 8 * c + 6) 1) (12 + 8 * c + 4) 0) (12 + 8 * c + 5) 0) (12 + 8 * c + 7) (h (12 + 8 * c + 7) + 1)
def winC (f : Nat → Int32) (c : Nat) (t : Int32) : Nat → Int32 :=
  if f (12 + 8 * c + 6) = 0 then setC f c else (if offB f c (t / 2) = true then setC (turC f c) c else setC f c)
def cpyC (f h : Nat → Int32) (c d : Nat) : Nat → Int32 := upd (upd (upd (upd (upd (upd (upd (upd f (12 + 8 * c + 0) (h (12 + 8 * d + 0))) (12 + 8 * c + 1) (h (12 + 8 * d + 1))) (12 + 8 * c + 2) (h (12 + 8 * d + 2))) (12 + 8 * c + 3) (h (12 + 8 * d + 3))) (12 + 8 * c + 4) (h (12 + 8 * d + 4))) (12 + 8 * c + 5) (h (12 + 8 * d + 5))) (12 + 8 * c + 7) (h (12 + 8 * d + 7))) (12 + 8 * c + 6) (h (12 + 8 * d + 6))
theorem isC_iff2 {f : Nat → Int32} (w : Wk f) (x : Int32) : (¬ x < 0 ∧ ¬ nI (cn f) ≤ x) ↔ ∃ i, isC f x i := by
  constructor
  · rintro ⟨h1, h2⟩
    obtain ⟨j, hj, rfl⟩ := nI_of h1
    exact ⟨j, Nat.lt_of_not_le fun z => h2 ((nI_leI (by have := w.2.1; omega) hj).mpr z), rfl⟩
  · rintro ⟨i, hi, rfl⟩
    have := w.2.1
    exact ⟨nI_pos (by omega), fun z => by have := (nI_leI (by omega) (by omega)).mp z; omega⟩
theorem lof_iff2 {f : Nat → Int32} (w : Wk f) (x : Int32) : (¬ x < 0 ∧ ¬ nI (ln f) ≤ x) ↔ ∃ i, i < ln f ∧ x = nI i := by
  constructor
  · rintro ⟨h1, h2⟩
    obtain ⟨j, hj, rfl⟩ := nI_of h1
    exact ⟨j, Nat.lt_of_not_le fun z => h2 ((nI_leI (by have := w.2.2.2; omega) hj).mpr z), rfl⟩
  · rintro ⟨i, hi, rfl⟩
    have := w.2.2.2
    exact ⟨nI_pos (by omega), fun z => by have := (nI_leI (by omega) (by omega)).mp z; omega⟩
/-- what the class's searches rest on -/
def Lad (f : Nat → Int32) : Prop := (∀ j, j < ln f → ¬ 31 ≤ f (8 + j)) ∧ ∀ c, c < cn f → 0 ≤ f (12 + 8 * c + 1)
def Tm (f : Nat → Int32) : Prop := (f 1 = nI (ix (f 1)) ∧ ix (f 1) ≤ 30) ∧ ∀ c, c < cn f → f (12 + 8 * c + 5) = nI (ix (f (12 + 8 * c + 5))) ∧ ix (f (12 + 8 * c + 5)) ≤ 20000
def duL (f : Nat → Int32) (c : Nat) (t : Int32) : Nat → Nat → Nat
  | 0, d => d
  | u + 1, d => if jabs (f (12 + 8 * c + 4) + nI d * rt f c) ≤ t then duL f c t u (d + 1) else d
def stD (f : Nat → Int32) (c : Nat) : Nat := max 1 (ix (f 1) + 1 - ix (f (12 + 8 * c + 5)))
def duC (f : Nat → Int32) (c : Nat) (t : Int32) (D : Nat) : Nat := if offB f c t = true then 0 else duL f c t (D - 1) 1
theorem jmax_nI {a b : Nat} (ha : a < 2 ^ 30) (hb : b < 2 ^ 30) : jmax 1 (nI a - nI b) = nI (max 1 (a - b)) := by
  unfold jmax
  by_cases h : b ≤ a
  · rw [pk_sub h]
    by_cases h1 : 1 < a - b
    · have h9 : (1 : Int32) < nI (a - b) := (nI_ltI (a := 1) (b := a - b) (by omega) (by omega)).mpr h1
      rw [if_pos h9, Nat.max_eq_right (by omega)]
    · have h9 : ¬ (1 : Int32) < nI (a - b) := fun z => h1 ((nI_ltI (a := 1) (b := a - b) (by omega) (by omega)).mp z)
      rw [if_neg h9, Nat.max_eq_left (by omega)]; rfl
  · have hs := pk_sneg (a := a) (b := b) hb (by omega)
    rw [if_neg (fun z => by
      rw [Int32.lt_iff_toInt_lt] at z hs
      rw [show (0 : Int32).toInt = 0 from by decide] at hs
      rw [show (1 : Int32).toInt = 1 from by decide] at z
      omega), Nat.max_eq_left (by omega)]; rfl
def goN (f : Nat → Int32) : Nat → Nat
  | 0 => 0
  | k + 1 => if f (12 + 8 * k + 6) = 0 then goN f k else goN f k + 1
theorem goN_le (f : Nat → Int32) (k : Nat) : goN f k ≤ k := by
  induction k with
  | zero => exact Nat.le_refl _
  | succ k ih => unfold goN; split <;> omega
def stC (f : Nat → Int32) : Nat → Int32
  | 0 => 0
  | k + 1 => if f (12 + 8 * k + 6) = 0 then stC f k ||| (1 : Int32) <<< (nI k &&& 31) else stC f k
def ofN (f : Nat → Int32) : Nat → Nat
  | 0 => 0
  | k + 1 => if offB f k (f 0) = true then ofN f k + 1 else ofN f k
theorem ofN_le (f : Nat → Int32) (k : Nat) : ofN f k ≤ k := by
  induction k with
  | zero => exact Nat.le_refl _
  | succ k ih => unfold ofN; split <;> omega
def cwN (f : Nat → Int32) : Nat → Nat
  | 0 => 0
  | k + 1 => if canW f k = true then cwN f k else cwN f k + 1
theorem cwN_le (f : Nat → Int32) (k : Nat) : cwN f k ≤ k := by
  induction k with
  | zero => exact Nat.le_refl _
  | succ k ih => unfold cwN; split <;> omega
def twN (f : Nat → Int32) : Nat → Int32
  | 0 => 0
  | k + 1 => twN f k + f (12 + 8 * k + 7)
def ruN (f : Nat → Int32) : Nat → Int32
  | 0 => 0
  | k + 1 => if canW f k = true then ruN f k else jmax (ruN f k) (f (12 + 8 * k + 1))
def duS (f : Nat → Int32) (c : Nat) : Nat := duC f c (f 0) (stD f c)
def raN (f : Nat → Int32) (c : Nat) : Nat → Nat
  | 0 => 0
  | k + 1 => if duS f k < duS f c then raN f c k + 1 else if duS f k = duS f c then (if c ≤ k then raN f c k else raN f c k + 1) else raN f c k
theorem raN_le (f : Nat → Int32) (c k : Nat) : raN f c k ≤ k := by
  induction k with
  | zero => exact Nat.le_refl _
  | succ k ih =>
    unfold raN
    split
    · omega
    · split
      · split <;> omega
      · omega
theorem duL_le (f : Nat → Int32) (c : Nat) (t : Int32) : ∀ u d, duL f c t u d ≤ d + u := by
  intro u
  induction u with
  | zero => intro d; exact Nat.le_refl _
  | succ u ih =>
    intro d; unfold duL; split
    · have := ih (d + 1); omega
    · omega
theorem duS_lt {f : Nat → Int32} (h : Tm f) (c : Nat) : duS f c < 2 ^ 31 := by
  have h1 := h.1.2
  unfold duS duC stD
  split
  · decide
  · have := duL_le f c (f 0) (max 1 (ix (f 1) + 1 - ix (f (12 + 8 * c + 5))) - 1) 1
    have : max 1 (ix (f 1) + 1 - ix (f (12 + 8 * c + 5))) ≤ 31 := by omega
    omega
def brC (f : Nat → Int32) (o : Option Nat) : Int32 := match o with | none => 31 | some p => f (8 + p)
theorem ladP_0 (f : Nat → Int32) (n : Nat) : ladP f 0 n = none := by
  induction n with
  | zero => rfl
  | succ n ih => unfold ladP; rw [ih]; simp
/-! what lasts() tells of the first n clocks, kept in a row -/
def lasW (f : Nat → Int32) (w : Nat → Int32) : Nat → Nat → Int32
  | 0 => w
  | n + 1 => upd (lasW f w n) n (nI (duS f n))
theorem lasW_get (f : Nat → Int32) (w : Nat → Int32) {n i : Nat} (h : i < n) : lasW f w n i = nI (duS f i) := by
  induction n with
  | zero => exact absurd h (Nat.not_lt_zero _)
  | succ n ih =>
    unfold lasW
    by_cases e : i = n
    · subst e; exact upd_self
    · rw [upd_ne e]; exact ih (by omega)
theorem lasW_0 (C : MS) (f : Nat → Int32) : mrow C 15 (lasW f (C 15) 0) = C := mrow_self C 15
theorem lasW_set (C : MS) (f w : Nat → Int32) (n : Nat) : mset (mrow C 15 (lasW f w n)) 15 n (nI (duS f n)) = mrow C 15 (lasW f w (n + 1)) := mset_mrow_s C 15 n _ _
theorem raN_lt (f : Nat → Int32) (c : Nat) : ∀ k, c < k → raN f c k < k := by
  intro k
  induction k with
  | zero => intro h; exact absurd h (Nat.not_lt_zero _)
  | succ k ih =>
    intro h
    have hle := raN_le f c k
    unfold raN
    by_cases e : c = k
    · subst e
      rw [if_neg (Nat.lt_irrefl _), if_pos rfl, if_pos (Nat.le_refl _)]; omega
    · have := ih (by omega)
      split
      · omega
      · split
        · split <;> omega
        · omega
end
section
/-! what the class's States do -/
section CR2
variable {p : Program} {l : Launch} {e : Env} {R : Room} {s : State} {m : MethodId} {args : Array Value} {below : List Frame} {meth : Method} {c : Code} {H : Heap} {locs : List Loc} {cells slots : Nat} {Q : State → Prop}
variable {cc : ByteArray} {pc : Nat} {ls : Array Slot} {rest : List Value} {dd : va_G} {g : Nat → ClassId} {A : Nat → Prop} {ad pi : Nat → Nat} {C : MS} {H0 : Heap} {own0 : String}
def stS (f h : Nat → Int32) : Nat → Int32 := fun j => if j < 4 then h j else f j
def laS (f h : Nat → Int32) : Nat → Int32 := fun j => if 8 ≤ j ∧ j < 12 then h j else f j
theorem cP_row {i k : Nat} {F : Nat → Int32} {e : va_E} (h : va_P dd vwCl ((cW g ad pi C).set i (ad i, e)) H) (hi : cE ad g pi (mrow C k F) i = e) (ho : ∀ j, own k j ≠ i → F j = C k j) : cP dd g ad pi H (mrow C k F) := by
  refine cP_set h hi (fun a ha hne => cE_own ha (fun u v huv => ?_))
  by_cases hu : u = k
  · subst hu; rw [mrow_s]; exact ho v (fun z => hne (huv.symm.trans z))
  · rw [mrow_n _ hu]
theorem c_cpyS {index : Nat} (hexec : p.tables.exec = Jvm.exec) (hb : c.code = cc) (hml : c.maxLocals = ls.size) (hown : s.vm.findClass own0 = some m.cls) (hlink : (Cond.methodLink own0 index arraycopyName).before args s = true) (hnat : (Cond.native arraycopyName).before args s = true) (hstat : (Cond.static arraycopyName).before args s = true) (hini : (Cond.initialized "java/lang/System").before args s = true)
    (hK : va_K dd vwCl (tysW g) s) (hA : cA A ad) (hI : cI dd g ad pi A H0 H locs C) (k k2 : Nat) (hk : k < 10) (hk2 : k2 < 10) (hne : k ≠ k2) (hframes : 1 ≤ R.frames) (hlocals : (rest.map fun v => v.category).sum + (nativeFrameWords "java/lang/System" "arraycopy" 5 + 11) ≤ R.locals) (hdg : decode cc pc = .ok (.invokestatic index, 3))
    (kk : ∀ (H1 : Heap) (locs1 : List Loc), cI dd g ad pi A H0 H1 locs1 (mrow C k (stS (C k) (C k2))) → W p l e R s m args below meth c H1 locs1 cells slots Q (F0 m (pc + 3) ls rest)) : W p l e R s m args below meth c H locs cells slots Q (F0 m pc ls (.int 4 :: .int 0 :: .ref (ad (12 + 20 * k)) :: .int 0 :: .ref (ad (12 + 20 * k2)) :: rest)) := by
  refine va_copyi hexec hb hml hown hlink hnat hstat hini hK hI.1 (hA.D g pi C) hI.2 (12 + 20 * k2) (12 + 20 * k) 0 0 (by rw [cW_get (by omega), cE_se]) (by rw [cW_get (by omega), cE_se]) rfl rfl rfl (by decide) (by decide) (by decide) (by decide) (by decide) (fun i _ => rfl) hframes hlocals hdg (fun H1 locs1 h1 _ h3 => kk H1 locs1 ⟨?_, h3⟩)
  refine cP_row h1 ?_ (fun j hj => ?_)
  · rw [cE_se]
    have e : (fun j => if j < 4 then mrow C k (stS (C k) (C k2)) k j else 0) = va_cpy (fun j => if j < 4 then C k2 j else 0) (fun j => if j < 4 then C k j else 0) (Int32.toNatClampNeg 0) (Int32.toNatClampNeg 0) (Int32.toNatClampNeg 4) := by
      funext j
      rw [show (Int32.toNatClampNeg 0) = 0 from by decide, show (Int32.toNatClampNeg 4) = 4 from by decide, mrow_s]
      unfold stS va_cpy
      by_cases z : j < 4
      · rw [if_pos z, if_pos z, if_pos (by omega), show 0 + (j - 0) = j by omega]; exact (if_pos z).symm
      · rw [if_neg z, if_neg (by omega)]; exact (if_neg z).symm
    rw [e]
  · unfold stS; rw [if_neg]; intro z; exact hj (by rw [own_lo hk, if_pos z])
theorem c_cpyL {index : Nat} (hexec : p.tables.exec = Jvm.exec) (hb : c.code = cc) (hml : c.maxLocals = ls.size) (hown : s.vm.findClass own0 = some m.cls) (hlink : (Cond.methodLink own0 index arraycopyName).before args s = true) (hnat : (Cond.native arraycopyName).before args s = true) (hstat : (Cond.static arraycopyName).before args s = true) (hini : (Cond.initialized "java/lang/System").before args s = true)
    (hK : va_K dd vwCl (tysW g) s) (hA : cA A ad) (hI : cI dd g ad pi A H0 H locs C) (k k2 : Nat) (hk : k < 10) (hk2 : k2 < 10) (hne : k ≠ k2) (hframes : 1 ≤ R.frames) (hlocals : (rest.map fun v => v.category).sum + (nativeFrameWords "java/lang/System" "arraycopy" 5 + 11) ≤ R.locals) (hdg : decode cc pc = .ok (.invokestatic index, 3))
    (kk : ∀ (H1 : Heap) (locs1 : List Loc), cI dd g ad pi A H0 H1 locs1 (mrow C k (laS (C k) (C k2))) → W p l e R s m args below meth c H1 locs1 cells slots Q (F0 m (pc + 3) ls rest)) : W p l e R s m args below meth c H locs cells slots Q (F0 m pc ls (.int 4 :: .int 0 :: .ref (ad (14 + 20 * k)) :: .int 0 :: .ref (ad (14 + 20 * k2)) :: rest)) := by
  refine va_copyi hexec hb hml hown hlink hnat hstat hini hK hI.1 (hA.D g pi C) hI.2 (14 + 20 * k2) (14 + 20 * k) 0 0 (by rw [cW_get (by omega), cE_la]) (by rw [cW_get (by omega), cE_la]) rfl rfl rfl (by decide) (by decide) (by decide) (by decide) (by decide) (fun i _ => rfl) hframes hlocals hdg (fun H1 locs1 h1 _ h3 => kk H1 locs1 ⟨?_, h3⟩)
  refine cP_row h1 ?_ (fun j hj => ?_)
  · rw [cE_la]
    have e : (fun j => if j < 4 then mrow C k (laS (C k) (C k2)) k (8 + j) else 0) = va_cpy (fun j => if j < 4 then C k2 (8 + j) else 0) (fun j => if j < 4 then C k (8 + j) else 0) (Int32.toNatClampNeg 0) (Int32.toNatClampNeg 0) (Int32.toNatClampNeg 4) := by
      funext j
      rw [show (Int32.toNatClampNeg 0) = 0 from by decide, show (Int32.toNatClampNeg 4) = 4 from by decide, mrow_s]
      unfold laS va_cpy
      by_cases z : j < 4
      · rw [if_pos z, if_pos (by omega), if_pos (by omega), show 0 + (j - 0) = j by omega]; exact (if_pos z).symm
      · rw [if_neg z, if_neg (by omega)]; exact (if_neg z).symm
    rw [e]
  · unfold laS; rw [if_neg]; intro z; exact hj (by rw [own_lo hk, if_neg (by omega), if_neg (by omega), if_pos z.2])
end CR2
def rsR (f : Nat → Int32) (x v : Int32) : Int32 := if x < 0 then -2 else if 4 ≤ x then -2 else if inB v 1 (if ix x = 0 then 999 else 30) = true then f (ix x) else -2
def rsF (f : Nat → Int32) (x v : Int32) : Nat → Int32 := if x < 0 then f else if 4 ≤ x then f else if inB v 1 (if ix x = 0 then 999 else 30) = true then upd f (ix x) v else f
def acR (f : Nat → Int32) (h u d : Int32) : Int32 := if inB h 0 99 = true then if inB u 0 30 = true then if inB d (-99) 99 = true then if cn f < 16 then nI (cn f) else -4 else -2 else -2 else -2
def acF (f : Nat → Int32) (h u d : Int32) : Nat → Int32 := if inB h 0 99 = true then if inB u 0 30 = true then if inB d (-99) 99 = true then if cn f < 16 then upd (begC f (cn f) h u d) 5 (nI (cn f + 1)) else f else f else f else f
theorem begC_low (f : Nat → Int32) (c : Nat) (h u d : Int32) {j : Nat} (hj : j < 12) : begC f c h u d j = f j := by
  unfold begC
  iterate 8 rw [upd_ne (by omega)]
def alR (f : Nat → Int32) (u : Int32) : Int32 := if inB u 1 30 = true then if ln f < 4 then nI (ln f) else -4 else -2
def alF (f : Nat → Int32) (u : Int32) : Nat → Int32 := if inB u 1 30 = true then if ln f < 4 then upd (upd f (8 + ln f) u) 6 (nI (ln f + 1)) else f else f
def tsR (f : Nat → Int32) (x t : Int32) : Int32 := if isCb f x = true then if inB t (-20) 20 = true then if inB (f (12 + 8 * ix x + 3) + t) (-20) 20 = true then f (12 + 8 * ix x + 3) + t + 20 else -5 else -2 else -1
def tsF (f : Nat → Int32) (x t : Int32) : Nat → Int32 := if isCb f x = true then if inB t (-20) 20 = true then if inB (f (12 + 8 * ix x + 3) + t) (-20) 20 = true then upd f (12 + 8 * ix x + 3) (f (12 + 8 * ix x + 3) + t) else f else f else f
def dcA (f : Nat → Int32) (wd : Int32) : Nat → Nat → Int32
  | 0 => f
  | c + 1 => dayC (dcA f wd c) c wd
def dcD (f : Nat → Int32) (wd : Int32) (n : Nat) : Nat → Nat → Int32
  | 0 => f
  | d + 1 => dcA (dcD f wd n d) wd n
theorem dayC_low (f : Nat → Int32) (c : Nat) (wd : Int32) {j : Nat} (hj : j < 12) : dayC f c wd j = f j := by
  unfold dayC
  split
  · split
    · rw [upd_ne (by omega)]
    · iterate 3 rw [upd_ne (by omega)]
  · split
    · iterate 2 rw [upd_ne (by omega)]
    · iterate 4 rw [upd_ne (by omega)]
theorem dcA_low (f : Nat → Int32) (wd : Int32) (c : Nat) {j : Nat} (hj : j < 12) : dcA f wd c j = f j := by
  induction c with
  | zero => rfl
  | succ c ih => unfold dcA; rw [dayC_low _ _ _ hj, ih]
theorem dcD_low (f : Nat → Int32) (wd : Int32) (n d : Nat) {j : Nat} (hj : j < 12) : dcD f wd n d j = f j := by
  induction d with
  | zero => rfl
  | succ d ih => unfold dcD; rw [dcA_low _ _ _ hj, ih]
theorem Wk.low {f h : Nat → Int32} (w : Wk f) (h5 : h 5 = f 5) (h6 : h 6 = f 6) : Wk h := by
  unfold Wk cn ln; rw [h5, h6]; exact w
theorem cn_low {f h : Nat → Int32} (h5 : h 5 = f 5) : cn h = cn f := by unfold cn; rw [h5]
theorem ln_low {f h : Nat → Int32} (h6 : h 6 = f 6) : ln h = ln f := by unfold ln; rw [h6]
def psW (f : Nat → Int32) (m : Int32) : Nat → Int32 := upd (dcD f (f 1) (cn f) (ix m)) 4 (f 4 + m)
def psR (f : Nat → Int32) (m : Int32) : Int32 := if inB m 1 99 = true then if f 4 + m ≤ 9999 then nI (cn f - goN (psW f m) (cn f)) else -5 else -2
def psF (f : Nat → Int32) (m : Int32) : Nat → Int32 := if inB m 1 99 = true then if f 4 + m ≤ 9999 then psW f m else f else f
def chC (f : Nat → Int32) (sec : Int32) : Nat → Nat → Int32
  | 0 => f
  | c + 1 => if chC f sec c (12 + 8 * c + 6) = 0 then chC f sec c else upd (chC f sec c) (12 + 8 * c + 4) (chC f sec c (12 + 8 * c + 4) + sec)
theorem chC_low (f : Nat → Int32) (sec : Int32) (c : Nat) {j : Nat} (hj : j < 12) : chC f sec c j = f j := by
  induction c with
  | zero => rfl
  | succ c ih => unfold chC; split; exact ih; rw [upd_ne (by omega)]; exact ih
def ccS (x : Int32) : Int32 := if x = 0 then 3600 else -3600
def ccF (f : Nat → Int32) (x : Int32) : Nat → Int32 := if x = 0 then chC f 3600 (cn f) else if x = 1 then chC f (-3600) (cn f) else f
def ccR (f : Nat → Int32) (x : Int32) : Int32 := if x = 0 then nI (goN (chC f 3600 (cn f)) (cn f)) else if x = 1 then nI (goN (chC f (-3600) (cn f)) (cn f)) else -2
def cpK (f h : Nat → Int32) : Nat → Nat → Int32
  | 0 => f
  | c + 1 => cpyC (cpK f h c) h c c
def cpS (f h : Nat → Int32) : Nat → Int32 := upd (upd (upd (upd (cpK (laS (stS f h) h) h (cn h)) 5 (nI (cn h))) 6 (h 6)) 4 (h 4)) 7 (h 7)
/-! what the class's Rows do; the minutes -/
def atR (w : Nat → Int32) (L : Nat) (x : Int32) : Int32 := if x < 0 then -6 else if nI L ≤ x then -6 else w (ix x)
def trN (w : Nat → Int32) (L : Nat) : Nat → Nat → Int32
  | 0 => w
  | i + 1 => upd (upd (trN w L i) i (trN w L i (L - 1 - i))) (L - 1 - i) (trN w L i i)
def hrN (f w : Nat → Int32) : Nat → Int32
  | 0 => 0
  | n + 1 => f (12 + 8 * ix (w n) + 0)
def ndN (f w : Nat → Int32) (n : Nat) : Int32 := o2i (ladF f (ix (w n)))
def caN (f w : Nat → Int32) : Nat → Int32
  | 0 => -6
  | n + 1 => if ndN f w n = -6 then caN f w n else if ndN f w n = caN f w n then caN f w n else ndN f w n
def spN (f w : Nat → Int32) : Nat → Int32
  | 0 => 0
  | n + 1 => if ndN f w n = -6 then spN f w n + jabs (f (12 + 8 * ix (w n) + 0) - hrN f w n) else if ndN f w n = caN f w n then spN f w n + jabs (f (12 + 8 * ix (w n) + 0) - hrN f w n) else spN f w n + jabs (f (12 + 8 * ix (w n) + 0) - hrN f w n) + 2 * f (12 + 8 * ix (w n) + 0)
def wkN (f w : Nat → Int32) : Nat → Nat
  | 0 => 0
  | n + 1 => if canW f (ix (w n)) = true then wkN f w n + 1 else wkN f w n
theorem wkN_le (f w : Nat → Int32) (n : Nat) : wkN f w n ≤ n := by
  induction n with
  | zero => exact Nat.le_refl _
  | succ n ih => unfold wkN; split <;> omega
def moN (f w : Nat → Int32) (n : Nat) : Int32 := (spN f w n + hrN f w n) * f 2 + nI (wkN f w n) * f 3
def gdN (f w : Nat → Int32) (n : Nat) : Prop := ∀ i, i < n → isCb f (w i) = true
def wbN (f w : Nat → Int32) : Nat → Nat → Int32
  | 0 => f
  | n + 1 => if canW (wbN f w n) (ix (w n)) = true then winC (wbN f w n) (ix (w n)) (f 0) else wbN f w n
theorem turC_low (f : Nat → Int32) (c : Nat) {j : Nat} (hj : j < 12) : turC f c j = f j := by
  unfold turC
  split
  · split
    · rfl
    · split
      · rfl
      · rw [upd_ne (by omega)]
  · split
    · split
      · rfl
      · split
        · rfl
        · rw [upd_ne (by omega)]
    · rw [upd_ne (by omega)]
theorem setC_low (f : Nat → Int32) (c : Nat) {j : Nat} (hj : j < 12) : setC f c j = f j := by
  unfold setC; iterate 4 rw [upd_ne (by omega)]
theorem winC_low (f : Nat → Int32) (c : Nat) (t : Int32) {j : Nat} (hj : j < 12) : winC f c t j = f j := by
  unfold winC
  split
  · exact setC_low _ _ hj
  · split
    · rw [setC_low _ _ hj, turC_low _ _ hj]
    · exact setC_low _ _ hj
theorem wbN_low (f w : Nat → Int32) (n : Nat) {j : Nat} (hj : j < 12) : wbN f w n j = f j := by
  induction n with
  | zero => rfl
  | succ n ih => unfold wbN; split; rw [winC_low _ _ _ hj]; exact ih; exact ih
theorem turC_rungs (f : Nat → Int32) (c i : Nat) : turC f c (12 + 8 * i + 1) = f (12 + 8 * i + 1) := by
  unfold turC
  split
  · split
    · rfl
    · split
      · rfl
      · rw [upd_ne (by omega)]
  · split
    · split
      · rfl
      · split
        · rfl
        · rw [upd_ne (by omega)]
    · rw [upd_ne (by omega)]
theorem setC_rungs (f : Nat → Int32) (c i : Nat) : setC f c (12 + 8 * i + 1) = f (12 + 8 * i + 1) := by
  unfold setC; iterate 4 rw [upd_ne (by omega)]
theorem winC_rungs (f : Nat → Int32) (c i : Nat) (t : Int32) : winC f c t (12 + 8 * i + 1) = f (12 + 8 * i + 1) := by
  unfold winC
  split
  · exact setC_rungs _ _ _
  · split
    · rw [setC_rungs, turC_rungs]
    · exact setC_rungs _ _ _
theorem wbN_rungs (f w : Nat → Int32) (n i : Nat) : wbN f w n (12 + 8 * i + 1) = f (12 + 8 * i + 1) := by
  induction n with
  | zero => rfl
  | succ n ih => unfold wbN; split; rw [winC_rungs]; exact ih; exact ih
theorem Lad.low {f h : Nat → Int32} (H : Lad f) (hl : ∀ j, j < 12 → h j = f j) (hr : ∀ i, h (12 + 8 * i + 1) = f (12 + 8 * i + 1)) (w : Wk f) : Lad h := by
  refine ⟨fun j hj => ?_, fun c hc => ?_⟩
  · rw [ln_low (hl 6 (by decide))] at hj
    have := w.2.2.2
    rw [hl (8 + j) (by omega)]; exact H.1 j hj
  · rw [cn_low (hl 5 (by decide))] at hc
    rw [hr c]; exact H.2 c hc
theorem atR_in {w : Nat → Int32} {L j : Nat} (hL : L ≤ 40) (h : j < L) : atR w L (nI j) = w j := by
  unfold atR
  rw [if_neg (nI_pos (by omega)), if_neg (fun z => by have := (nI_leI (a := L) (b := j) (by omega) (by omega)).mp z; omega), ix_nI (by omega)]
theorem gdN_s {f w : Nat → Int32} {n : Nat} (h : gdN f w n) (hb : isCb f (w n) = true) : gdN f w (n + 1) := fun i hi => by
  rcases Nat.lt_or_ge i n with z | z
  · exact h i z
  · rw [show i = n by omega]; exact hb
theorem isCb_low {f h : Nat → Int32} {x : Int32} (h5 : h 5 = f 5) : isCb h x = isCb f x := by unfold isCb; rw [h5]
end
section
/-! the class's Pad: the place, how many numbers, the numbers -/
def pdM (C : MS) (q L : Nat) (w : Nat → Int32) : MS := mset (mset (mrow C 13 w) 10 4 (nI L)) 10 2 (nI q)
section PD
variable {C : MS} {q q' L L' : Nat} {w w' : Nat → Int32}
theorem pdM_13 : pdM C q L w 13 = w := by
  unfold pdM; rw [mset_ne _ (by decide), mset_ne _ (by decide), mrow_s]
theorem pdM_ne {a : Nat} (h : a ≠ 10) (h2 : a ≠ 13) : pdM C q L w a = C a := by
  unfold pdM; rw [mset_ne _ h, mset_ne _ h, mrow_n _ h2]
theorem pdM_q : pdM C q L w 10 2 = nI q := by unfold pdM; exact mset_eq _ _ _ _
theorem pdM_L : pdM C q L w 10 4 = nI L := by unfold pdM; rw [mset_nj _ (by decide)]; exact mset_eq _ _ _ _
theorem pdM_o {j : Nat} (h : j ≠ 2) (h4 : j ≠ 4) : pdM C q L w 10 j = C 10 j := by
  unfold pdM; rw [mset_nj _ h, mset_nj _ h4, mrow_n _ (by decide)]
theorem pdM_pdM : pdM (pdM C q L w) q' L' w' = pdM C q' L' w' := by
  funext a b
  by_cases h : a = 10
  · subst h
    by_cases h2 : b = 2
    · subst h2; rw [pdM_q, pdM_q]
    · by_cases h4 : b = 4
      · subst h4; rw [pdM_L, pdM_L]
      · rw [pdM_o h2 h4, pdM_o h2 h4, pdM_o h2 h4]
  · by_cases h2 : a = 13
    · subst h2; rw [pdM_13, pdM_13]
    · rw [pdM_ne h h2, pdM_ne h h2, pdM_ne h h2]
theorem pdM_tk : mset (pdM C q L w) 10 2 (nI q') = pdM C q' L w := by unfold pdM; rw [mset_mset]
theorem pdM_id (h2 : C 10 2 = nI q) (h4 : C 10 4 = nI L) : pdM C q L (C 13) = C := by
  unfold pdM; rw [mrow_self, mset_id h4, mset_id h2]
theorem pdM_add {x : Int32} : mset (mset (mset C 10 2 (nI q)) 13 L x) 10 4 (nI L') = pdM C q L' (upd (C 13) L x) := by
  funext a b
  by_cases h : a = 10
  · subst h
    by_cases h2 : b = 2
    · subst h2; rw [pdM_q, mset_nj _ (by decide), mset_nk _ (by decide), mset_eq]
    · by_cases h4 : b = 4
      · subst h4; rw [pdM_L, mset_eq]
      · rw [pdM_o h2 h4, mset_nj _ h4, mset_nk _ (by decide), mset_nj _ h2]
  · by_cases h2 : a = 13
    · subst h2; rw [pdM_13, mset_ne _ (by decide), mset_row, mset_ne _ (by decide)]
    · rw [pdM_ne h h2, mset_ne _ h, mset_ne _ h2, mset_ne _ h]
end PD
def rC (t : Nat → Int32) (len u q n : Nat) (w : Nat → Int32) : Bool × Nat × Nat × (Nat → Int32) :=
  match rN t len q with
  | none => (false, q, n, w)
  | some v => rB t len u v.2 (n + 1) (upd w n v.1)
def chOk (t : Nat → Int32) (len : Nat) : Prop := ∀ j, j < len → ∃ n, n < 128 ∧ t j = nI n
theorem nar_ch {t : Nat → Int32} {len p : Nat} (h : chOk t len) (hp : p < len) : narrow .char (.int (t p)) = .int (t p) := by
  obtain ⟨n, hn, e⟩ := h p hp
  rw [e]
  exact (show ∀ n, n < 128 → narrow .char (.int (nI n)) = .int (nI n) from by decide +kernel) n hn
theorem nxB_eq {t : Nat → Int32} {len p : Nat} {lo hi : Int32} (hlo : ¬ lo ≤ 0) : nxB t len p lo hi = inB (chr t len p) lo hi := by
  by_cases h : p < len
  · unfold nxB; rw [chr_in h]; simp [h]
  · rw [chr_out (by omega)]
    unfold nxB inB
    have : (0 : Int32) < lo := Int32.not_le.mp hlo
    simp [h, this]
end
section
/-! orders as the class's Pad reads them -/
theorem chr_lt {t : Nat → Int32} {len p : Nat} {x : Int32} (h : chr t len p = x) (hx : x ≠ 0) : p < len := by
  rcases Nat.lt_or_ge p len with z | z
  · exact z
  · exact absurd ((chr_out z).symm.trans h).symm hx
theorem inB_self (x : Int32) : inB x x x = true := by rw [inB_t]; exact ⟨fun z => Int32.lt_irrefl z, fun z => Int32.lt_irrefl z⟩
theorem inB_eq {x y : Int32} (h : inB x y y = true) : x = y := by
  rw [inB_t, Int32.not_lt, Int32.not_lt] at h
  exact Int32.le_antisymm h.2 h.1
theorem inB_yes {x y : Int32} (h : x = y) : inB x y y = true := by rw [h]; exact inB_self y
theorem inB_no {x y : Int32} (h : ¬ x = y) : inB x y y = false := by
  cases e : inB x y y
  · rfl
  · exact absurd (inB_eq e) h
theorem nxB_yes {t : Nat → Int32} {len p : Nat} {x : Int32} (h : chr t len p = x) (hx : ¬ x ≤ 0) : nxB t len p x x = true := by rw [nxB_eq hx]; exact inB_yes h
theorem nxB_no {t : Nat → Int32} {len p : Nat} {x : Int32} (h : ¬ chr t len p = x) (hx : ¬ x ≤ 0) : nxB t len p x x = false := by rw [nxB_eq hx]; exact inB_no h
theorem rC_no {t : Nat → Int32} {len u q n : Nat} {w : Nat → Int32} (h : rN t len q = none) : rC t len u q n w = (false, q, n, w) := by unfold rC; rw [h]
theorem rC_end {t : Nat → Int32} {len i q n p' : Nat} {w : Nat → Int32} {v : Int32} (h : rN t len q = some (v, p')) (h2 : ¬ chr t len p' = 44) : rC t len (40 - i) q n w = (true, p', n + 1, upd w n v) := by
  unfold rC; rw [h]
  show rB t len (40 - i) p' (n + 1) (upd w n v) = _
  have h3 := nxB_no h2 (by decide)
  cases e : 40 - i with
  | zero => rfl
  | succ u => unfold rB; rw [h3]; rfl
theorem rC_go {t : Nat → Int32} {len i q n p' : Nat} {w : Nat → Int32} {v : Int32} (hi : i < 40) (h : rN t len q = some (v, p')) (h2 : chr t len p' = 44) : rC t len (40 - i) q n w = rC t len (40 - (i + 1)) (p' + 1) (n + 1) (upd w n v) := by
  have h3 := nxB_yes h2 (by decide)
  rw [show 40 - i = (40 - (i + 1)) + 1 by omega]
  generalize 40 - (i + 1) = u
  conv => lhs; unfold rC; rw [h]
  show rB t len (u + 1) p' (n + 1) (upd w n v) = _
  unfold rB; rw [h3]; rfl
theorem rB_cong (t : Nat → Int32) (len : Nat) : ∀ (u p n : Nat) (w w2 : Nat → Int32), (∀ j, j < n → w j = w2 j) → (rB t len u p n w).1 = (rB t len u p n w2).1 ∧ (rB t len u p n w).2.1 = (rB t len u p n w2).2.1 ∧ (rB t len u p n w).2.2.1 = (rB t len u p n w2).2.2.1 ∧ ∀ j, j < (rB t len u p n w).2.2.1 → (rB t len u p n w).2.2.2 j = (rB t len u p n w2).2.2.2 j := by
  intro u
  induction u with
  | zero => intro p n w w2 h; exact ⟨rfl, rfl, rfl, h⟩
  | succ u ih =>
    intro p n w w2 h
    unfold rB
    split
    · cases e : rN t len (p + 1) with
      | none => exact ⟨rfl, rfl, rfl, h⟩
      | some v =>
        refine ih v.2 (n + 1) (upd w n v.1) (upd w2 n v.1) (fun j hj => ?_)
        by_cases z : j = n
        · subst z; rw [upd_self, upd_self]
        · rw [upd_ne z, upd_ne z]; exact h j (by omega)
    · exact ⟨rfl, rfl, rfl, h⟩
/-- what the row holds behind an order that was read well -/
def nmS (c : Int32) (R : (Int32 × Int32 × Int32) × Nat × (Nat → Int32)) (L : Nat) (w : Nat → Int32) : Prop :=
  (c = 43 → L = 3 ∧ w 0 = R.1.1 ∧ w 1 = R.1.2.1 ∧ w 2 = R.1.2.2) ∧ (c = 108 → L = 1 ∧ w 0 = R.1.1) ∧ (c = 116 → L = 1 ∧ w 0 = R.1.1) ∧ (c = 98 → L = R.2.1 ∧ ∀ j, j < L → w j = R.2.2 j)
def rdP (C C1 : MS) (len p0 : Nat) (r : Int32) : Prop := ∃ (L : Nat) (w : Nat → Int32), C1 = pdM (mset C 10 3 (chr (C 12) len p0)) (rO (C 12) len p0).2.1 L w ∧ L ≤ 40 ∧ (((rO (C 12) len p0).1 = true ∧ r = 1 ∧ nmS (chr (C 12) len p0) (rO (C 12) len p0).2.2 L w) ∨ ((rO (C 12) len p0).1 = false ∧ r = 0))
theorem rdP_no {C : MS} {len p0 q L : Nat} {w : Nat → Int32} {c : Int32} (hc : c = chr (C 12) len p0) (h : (rO (C 12) len p0).1 = false ∧ (rO (C 12) len p0).2.1 = q) (hL : L ≤ 40) : rdP C (pdM (mset C 10 3 c) q L w) len p0 0 := ⟨L, w, by rw [h.2, hc], hL, Or.inr ⟨h.1, rfl⟩⟩
theorem rdP_ok {C : MS} {len p0 q L : Nat} {w : Nat → Int32} {c : Int32} (hc : c = chr (C 12) len p0) (h : (rO (C 12) len p0).1 = true ∧ (rO (C 12) len p0).2.1 = q) (hL : L ≤ 40) (hn : nmS c (rO (C 12) len p0).2.2 L w) : rdP C (pdM (mset C 10 3 c) q L w) len p0 1 := ⟨L, w, by rw [h.2, hc], hL, Or.inl ⟨h.1, rfl, by rw [← hc]; exact hn⟩⟩
theorem rO_98 {t : Nat → Int32} {len p : Nat} (h : chr t len p = 98) (w0 : Nat → Int32) : (rO t len p).1 = (rC t len 40 (p + 1) 0 w0).1 ∧ (rO t len p).2.1 = (rC t len 40 (p + 1) 0 w0).2.1 ∧ ((rO t len p).1 = true → (rC t len 40 (p + 1) 0 w0).2.2.1 = (rO t len p).2.2.2.1 ∧ ∀ j, j < (rC t len 40 (p + 1) 0 w0).2.2.1 → (rC t len 40 (p + 1) 0 w0).2.2.2 j = (rO t len p).2.2.2.2 j) := by
  unfold rO rC
  simp only [h]
  cases e : rN t len (p + 1) with
  | none => exact ⟨rfl, rfl, fun z => by simp at z⟩
  | some v =>
    obtain ⟨a, b, c, d⟩ := rB_cong t len 40 v.2 1 (upd w0 0 v.1) (fun _ => v.1) (fun j hj => by rw [show j = 0 by omega, upd_self])
    exact ⟨a.symm, b.symm, fun _ => ⟨c, d⟩⟩
theorem pdM_k1 {C : MS} {q : Nat} {x : Int32} : mset (mset (mset C 10 2 (nI q)) 10 4 0) 10 3 x = pdM (mset C 10 3 x) q 0 (C 13) := by
  funext a b
  by_cases h : a = 10
  · subst h
    by_cases h2 : b = 2
    · subst h2; rw [pdM_q, mset_nj _ (by decide), mset_nj _ (by decide), mset_eq]
    · by_cases h4 : b = 4
      · subst h4; rw [pdM_L, mset_nj _ (by decide), mset_eq]; rfl
      · rw [pdM_o h2 h4]
        by_cases h3 : b = 3
        · subst h3; rw [mset_eq, mset_eq]
        · rw [mset_nj _ h3, mset_nj _ h4, mset_nj _ h2, mset_nj _ h3]
  · by_cases h2 : a = 13
    · subst h2; rw [pdM_13, mset_ne _ (by decide), mset_ne _ (by decide), mset_ne _ (by decide)]
    · rw [pdM_ne h h2, mset_ne _ h, mset_ne _ h, mset_ne _ h, mset_ne _ h]
theorem pdM_k2 {C : MS} {q : Nat} {x : Int32} (h : C 10 2 = nI q) : mset (mset C 10 4 0) 10 3 x = pdM (mset C 10 3 x) q 0 (C 13) := by
  conv => lhs; rw [show C = mset C 10 2 (nI q) from (mset_id h).symm]
  exact pdM_k1
/-- all but what reading writes -/
def Pf (C C1 : MS) : Prop := (∀ a, a ≠ 10 → a ≠ 13 → C1 a = C a) ∧ ∀ j, j ≠ 2 → j ≠ 3 → j ≠ 4 → C1 10 j = C 10 j
theorem Pf.rf (C : MS) : Pf C C := ⟨fun _ _ _ => rfl, fun _ _ _ _ => rfl⟩
theorem Pf.trans {A B D : MS} (h : Pf A B) (h2 : Pf B D) : Pf A D := ⟨fun a z y => (h2.1 a z y).trans (h.1 a z y), fun j a b c => (h2.2 j a b c).trans (h.2 j a b c)⟩
theorem Pf.pd {C : MS} {x : Int32} {q L : Nat} {w : Nat → Int32} : Pf C (pdM (mset C 10 3 x) q L w) := ⟨fun a h h2 => by rw [pdM_ne h h2, mset_ne _ h], fun j h h3 h4 => by rw [pdM_o h h4, mset_nj _ h3]⟩
theorem Pf.q {C : MS} {x : Int32} : Pf C (mset C 10 2 x) := ⟨fun a h _ => mset_ne _ h _ _, fun j h _ _ => mset_nj _ h _ _⟩
/-- what the reading finds that stands at p, "behind an order" if p is not 0 -/
def gS (t : Nat → Int32) (len u p : Nat) : Option Nat := if p = 0 then gF t len u 0 else if chr t len p = 59 then gF t len u (p + 1) else some p
theorem gS_no {t : Nat → Int32} {len u p : Nat} (h0 : 0 < p) (h : ¬ chr t len p = 59) : gS t len u p = some p := by unfold gS; rw [if_neg (by omega), if_neg h]
def p0of (t : Nat → Int32) (len p : Nat) : Nat := if p = 0 then 0 else p + 1
theorem gS_p0 {t : Nat → Int32} {len u p : Nat} (h : p = 0 ∨ (0 < p ∧ chr t len p = 59)) : gS t len u p = gF t len u (p0of t len p) := by
  unfold gS p0of
  rcases h with rfl | ⟨h, h2⟩
  · rw [if_pos rfl, if_pos rfl]
  · rw [if_neg (by omega), if_pos h2, if_neg (by omega)]
theorem gF_s {t : Nat → Int32} {len u p : Nat} (h : (rO t len p).1 = true) (h2 : (rO t len p).2.1 < len) (h3 : 0 < (rO t len p).2.1) : gF t len (u + 1) p = gS t len u (rO t len p).2.1 := by
  unfold gS
  rw [if_neg (by omega)]
  by_cases z : chr t len (rO t len p).2.1 = 59
  · rw [if_pos z, gF_go h h2 (inB_yes z)]
  · rw [if_neg z, gF_sep h h2 (inB_no z)]
theorem mulm1 (x : Int32) : x * (-1) = -x := by
  rw [Int32.mul_neg, Int32.mul_one]
end
section
/-! the class's reading, its history -/
def rdT (T : Nat → Int32) (C C1 : MS) (len p0 : Nat) (r : Int32) : Prop := ∃ (L : Nat) (w : Nat → Int32), C1 = pdM (mset C 10 3 (chr T len p0)) (rO T len p0).2.1 L w ∧ L ≤ 40 ∧ (((rO T len p0).1 = true ∧ r = 1 ∧ nmS (chr T len p0) (rO T len p0).2.2 L w) ∨ ((rO T len p0).1 = false ∧ r = 0))
theorem rdJ {C C1 : MS} {len pp : Nat} {r : Int32} {T : Nat → Int32} (hT : C 12 = T) (h : (0 < pp ∧ ¬ chr (C 12) len pp = 59 ∧ r = 0 ∧ C1 = C) ∨ (pp = 0 ∧ rdP C C1 len pp r) ∨ (0 < pp ∧ chr (C 12) len pp = 59 ∧ rdP C C1 len (pp + 1) r)) :
    (0 < pp ∧ ¬ chr T len pp = 59 ∧ r = 0 ∧ C1 = C) ∨ ((pp = 0 ∨ (0 < pp ∧ chr T len pp = 59)) ∧ rdT T C C1 len (p0of T len pp) r) := by
  subst hT
  rcases h with h | ⟨h, h2⟩ | ⟨h, h1, h2⟩
  · exact Or.inl h
  · refine Or.inr ⟨Or.inl h, ?_⟩
    subst h; exact h2
  · refine Or.inr ⟨Or.inr ⟨h, h1⟩, ?_⟩
    unfold p0of; rw [if_neg (by omega)]; exact h2
theorem p0of_le {t : Nat → Int32} {len p : Nat} (hp : p ≤ len) (h : p = 0 ∨ (0 < p ∧ chr t len p = 59)) : p0of t len p ≤ len ∧ p ≤ p0of t len p ∧ (0 < p → p0of t len p = p + 1) := by
  unfold p0of
  rcases h with rfl | ⟨h, h2⟩
  · rw [if_pos rfl]; omega
  · rw [if_neg (by omega)]
    have := chr_lt h2 (by decide)
    omega
def rtP (pi : Nat → Nat) (i : Nat) : Nat → Nat := fun j => if j < i then pi (j + 1) else pi j
theorem rtP_0 (pi : Nat → Nat) : rtP pi 0 = pi := by funext j; exact if_neg (by omega)
theorem rtP_s (pi : Nat → Nat) (i : Nat) : va_up (rtP pi i) i (rtP pi i (i + 1)) = rtP pi (i + 1) := by
  funext j
  unfold va_up rtP
  by_cases h : j = i
  · subst h; rw [if_pos rfl, if_neg (by omega), if_pos (by omega)]
  · rw [if_neg h]
    by_cases h2 : j < i
    · rw [if_pos h2, if_pos (by omega)]
    · rw [if_neg h2, if_neg (by omega)]
def rot (pi : Nat → Nat) : Nat → Nat := va_up (rtP pi 6) 6 (pi 0)
/-- the history's places hold the States 1 to 7 -/
def piOk (pi : Nat → Nat) : Prop := (∀ j, j < 7 → 1 ≤ pi j ∧ pi j ≤ 7) ∧ ∀ i j, i < 7 → j < 7 → pi i = pi j → i = j
theorem rtP_lt {pi : Nat → Nat} (h : piOk pi) (i j : Nat) (hi : i < 6) (hj : j < 7) : rtP pi i j < 10 := by
  unfold rtP
  split
  · have := h.1 (j + 1) (by omega); omega
  · have := h.1 j hj; omega
theorem rot_e {pi : Nat → Nat} {j : Nat} (hj : j < 7) : rot pi j = if j = 6 then pi 0 else pi (j + 1) := by
  unfold rot va_up rtP
  by_cases h : j = 6
  · rw [if_pos h, if_pos h]
  · rw [if_neg h, if_neg h, if_pos (by omega)]
theorem rot_ok {pi : Nat → Nat} (h : piOk pi) : piOk (rot pi) := by
  refine ⟨fun j hj => ?_, fun i j hi hj e => ?_⟩
  · rw [rot_e hj]; split
    · exact h.1 0 (by decide)
    · exact h.1 (j + 1) (by omega)
  · rw [rot_e hi, rot_e hj] at e
    split at e
    · split at e
      · omega
      · have := h.2 0 (j + 1) (by decide) (by omega) e; omega
    · split at e
      · have := h.2 (i + 1) 0 (by omega) (by decide) e; omega
      · have := h.2 (i + 1) (j + 1) (by omega) (by omega) e; omega
def goOk (f : Nat → Int32) : Prop := ∀ c, c < 16 → f (12 + 8 * c + 6) = 0 ∨ f (12 + 8 * c + 6) = 1
/-- the table behind history.prepare(now) -/
def prM (C : MS) (pi : Nat → Nat) (d : Nat) : MS := mrow C (pi d) (cpS (C (pi d)) (C 0))
/-- a call that changes the state to F and answers r, as prepare, keptIfDone leave it -/
def opC (C : MS) (pi : Nat → Nat) (d : Nat) (F : Nat → Int32) (r : Int32) (C1 : MS) (pi1 : Nat → Nat) : Prop :=
  (0 ≤ r ∧ d < 6 ∧ C1 = mset (mrow (prM C pi d) 0 F) 10 0 (nI (d + 1)) ∧ pi1 = pi) ∨ (0 ≤ r ∧ ¬ d < 6 ∧ C1 = mrow (prM C pi d) 0 F ∧ pi1 = rot pi) ∨ (¬ 0 ≤ r ∧ C1 = mrow (prM C pi d) 0 F ∧ pi1 = pi)
end
section
/-! the class's public methods -/
def gdB (f w : Nat → Int32) : Nat → Bool
  | 0 => true
  | n + 1 => gdB f w n && isCb f (w n)
theorem gdB_t (f w : Nat → Int32) (n : Nat) : gdB f w n = true ↔ gdN f w n := by
  induction n with
  | zero => exact ⟨fun _ i h => absurd h (Nat.not_lt_zero _), fun _ => rfl⟩
  | succ n ih =>
    unfold gdB
    rw [Bool.and_eq_true, ih]
    exact ⟨fun h => gdN_s h.1 h.2, fun h => ⟨fun i hi => h i (by omega), h n (by omega)⟩⟩
def bwR (f w : Nat → Int32) (L : Nat) : Int32 := if gdB f w L = true then moN f w L else -1
def bwF (f w : Nat → Int32) (L : Nat) : Nat → Int32 := if gdB f w L = true then (if 0 ≤ moN f w L then upd (wbN f w L) 7 (f 7 + moN f w L) else f) else f
theorem prM_ne {C : MS} {pi : Nat → Nat} {d a : Nat} (h : a ≠ pi d) : prM C pi d a = C a := mrow_n _ h _
theorem Int32.nlt_le {x : Int32} (h : ¬ x < 0) : 0 ≤ x := Int32.not_lt.mp h
theorem Int32.lt_nle {x : Int32} (h : x < 0) : ¬ 0 ≤ x := Int32.not_le.mpr h
theorem lofR_in {f : Nat → Int32} (w : Wk f) {i : Nat} (h : i < ln f) : lofR f (nI i) = f (8 + i) := by
  have := w.2.2.2
  have e : inB (nI i) 0 (f 6 - 1) = true := by
    rw [w.2.2.1, show (1 : Int32) = nI 1 from rfl, pk_sub (by omega), inB_t]
    exact ⟨nI_pos (by omega), fun z => by have := (nI_ltI (by omega) (by omega)).mp z; omega⟩
  unfold lofR
  rw [if_pos e, ix_nI (by omega)]
theorem lofR_no {f : Nat → Int32} (w : Wk f) {x : Int32} (h : ¬ ∃ i, i < ln f ∧ x = nI i) : lofR f x = -1 := by
  unfold lofR
  rw [if_neg (fun z => h (lof_iff w z))]
def rwM (C : MS) (L : Nat) (w : Nat → Int32) : MS := mset (mrow C 14 w) 10 5 (nI L)
section RW0
variable {C : MS} {L L' : Nat} {w w' : Nat → Int32}
theorem rwM_5 : rwM C L w 10 5 = nI L := mset_eq _ _ _ _
theorem rwM_14 : rwM C L w 14 = w := by unfold rwM; rw [mset_ne _ (by decide), mrow_s]
theorem rwM_ne {a : Nat} (h : a ≠ 10) (h2 : a ≠ 14) : rwM C L w a = C a := by unfold rwM; rw [mset_ne _ h, mrow_n _ h2]
theorem rwM_o {j : Nat} (h : j ≠ 5) : rwM C L w 10 j = C 10 j := by unfold rwM; rw [mset_nj _ h, mrow_n _ (by decide)]
theorem rwM_add {x : Int32} : mset (mset (rwM C L w) 14 L x) 10 5 (nI L') = rwM C L' (upd w L x) := by
  funext a b
  by_cases h : a = 10
  · subst h
    by_cases h2 : b = 5
    · subst h2; rw [rwM_5, mset_eq]
    · rw [rwM_o h2, mset_nj _ h2, mset_nk _ (by decide), rwM_o h2]
  · by_cases h2 : a = 14
    · subst h2; rw [rwM_14, mset_ne _ (by decide), mset_row, rwM_14]
    · rw [rwM_ne h h2, mset_ne _ h, mset_ne _ h2, rwM_ne h h2]
theorem rwM_0 : mset C 10 5 0 = rwM C 0 (C 14) := by unfold rwM; rw [mrow_self]; rfl
end RW0
def chL (x : Int32) : Nat → Nat
  | 0 => 0
  | c + 1 => if (x >>> (nI c &&& 31)) &&& 1 = 1 then chL x c + 1 else chL x c
def chW (w : Nat → Int32) (x : Int32) : Nat → Nat → Int32
  | 0 => w
  | c + 1 => if (x >>> (nI c &&& 31)) &&& 1 = 1 then upd (chW w x c) (chL x c) (nI c) else chW w x c
theorem chL_le (x : Int32) (c : Nat) : chL x c ≤ c := by
  induction c with
  | zero => exact Nat.le_refl _
  | succ c ih => unfold chL; split <;> omega
theorem chW_ok (w : Nat → Int32) (x : Int32) (c : Nat) : ∀ j, j < chL x c → ∃ i, i < c ∧ chW w x c j = nI i := by
  induction c with
  | zero => intro j h; exact absurd h (Nat.not_lt_zero _)
  | succ c ih =>
    intro j hj
    unfold chW
    unfold chL at hj
    split at hj
    · next h =>
      rw [if_pos h]
      by_cases e : j = chL x c
      · subst e; exact ⟨c, by omega, upd_self⟩
      · rw [upd_ne e]; obtain ⟨i, a, b⟩ := ih j (by omega); exact ⟨i, by omega, b⟩
    · next h =>
      rw [if_neg h]
      obtain ⟨i, a, b⟩ := ih j hj; exact ⟨i, by omega, b⟩
theorem chW_gd {f : Nat → Int32} (hW : Wk f) (w : Nat → Int32) (x : Int32) : gdN f (chW w x (cn f)) (chL x (cn f)) := fun j hj => by
  obtain ⟨i, hi, e⟩ := chW_ok w x (cn f) j hj
  rw [e]; exact isCb_t hW ⟨hi, rfl⟩
def neC (f : Nat → Int32) (n : Nat) (x : Int32) : Nat → Int32
  | 0 => -1
  | k + 1 => if nI (raN f (n - (k + 1)) n) = x then nI (n - (k + 1)) else neC f n x k
theorem neC_out {f : Nat → Int32} {x : Int32} (hW : Wk f) (h : x < 0 ∨ ¬ x < nI (cn f)) : neC f (cn f) x (cn f) = -1 := by
  have h16 := hW.2.1
  have key : ∀ k, k ≤ cn f → neC f (cn f) x k = -1 := by
    intro k
    induction k with
    | zero => intro _; rfl
    | succ k ih =>
      intro hk
      unfold neC
      have hr := raN_lt f (cn f - (k + 1)) (cn f) (by omega)
      rw [if_neg, ih (by omega)]
      intro e
      rw [← e] at h
      rcases h with h | h
      · exact absurd ((nI_ltI (a := raN f (cn f - (k + 1)) (cn f)) (b := 0) (by omega) (by decide)).mp h) (Nat.not_lt_zero _)
      · exact h ((nI_ltI (by omega) (by omega)).mpr hr)
  exact key _ (Nat.le_refl _)
def lfC (f : Nat → Int32) : Int32 := if ln f < 4 then (if ruN f (cn f) = 0 then -6 else ruN f (cn f)) else -4
def cntC (f : Nat → Int32) (len kn : Int32) (w : Int32) : Int32 :=
  if w = 0 then f 4 else if w = 1 then f 5 else if w = 2 then f 6 else if w = 3 then stC f (cn f) else if w = 4 then nI (ofN f (cn f)) else if w = 5 then nI (cwN f (cn f)) else if w = 6 then f 7 else if w = 7 then twN f (cn f)
  else if w = 8 then f 0 else if w = 9 then f 1 else if w = 10 then f 2 else if w = 11 then f 3 else if w = 12 then len else if w = 13 then kn else -2
end
section
/-! turning round; slots -/
theorem trN_e (w : Nat → Int32) (L : Nat) : ∀ i, i ≤ L / 2 → ∀ j, j < L → trN w L i j = if j < i ∨ L - 1 - j < i then w (L - 1 - j) else w j := by
  intro i
  induction i with
  | zero => intro _ j hj; rw [if_neg (by omega)]; rfl
  | succ i ih =>
    intro hi j hj
    unfold trN
    rw [ih (by omega) (L - 1 - i) (by omega), ih (by omega) i (by omega), if_neg (by omega), if_neg (by omega)]
    by_cases h1 : j = L - 1 - i
    · subst h1
      rw [upd_self, if_pos (by omega), show L - 1 - (L - 1 - i) = i by omega]
    · rw [upd_ne h1]
      by_cases h2 : j = i
      · subst h2; rw [upd_self, if_pos (by omega)]
      · rw [upd_ne h2, ih (by omega) j hj]
        by_cases h3 : j < i ∨ L - 1 - j < i
        · rw [if_pos h3, if_pos (by omega)]
        · rw [if_neg h3, if_neg (by omega)]
theorem trN_rev (w : Nat → Int32) (L : Nat) {j : Nat} (hj : j < L) : trN w L (L / 2) j = w (L - 1 - j) := by
  rw [trN_e w L _ (Nat.le_refl _) j hj]
  split
  · rfl
  · rw [show L - 1 - j = j by omega]
theorem trN_gd {f w : Nat → Int32} {L : Nat} (h : gdN f w L) : gdN f (trN w L (L / 2)) L := fun j hj => by
  rw [trN_rev w L hj]; exact h _ (by omega)
theorem rwM_mrow {C : MS} {L : Nat} {w w' : Nat → Int32} : mrow (rwM C L w) 14 w' = rwM C L w' := by
  funext a b
  by_cases h2 : a = 14
  · subst h2; rw [mrow_s, rwM_14]
  · rw [mrow_n _ h2]
    by_cases h : a = 10
    · subst h
      by_cases h5 : b = 5
      · subst h5; rw [rwM_5, rwM_5]
      · rw [rwM_o h5, rwM_o h5]
    · rw [rwM_ne h h2, rwM_ne h h2]
def wayC (a b : Int32) : Int32 := if a = b then 2 else if b ≤ a then 1 else 0
theorem inB01_t {x : Int32} (h : ¬ x < 0) (h2 : ¬ 2 ≤ x) : inB x 0 1 = true := by
  rw [inB_t]; refine ⟨h, fun z => h2 ?_⟩
  have : (1 : Int32).toInt < x.toInt := Int32.lt_iff_toInt_lt.mp z
  rw [Int32.le_iff_toInt_le]
  rw [show (1 : Int32).toInt = 1 from by decide] at this
  rw [show (2 : Int32).toInt = 2 from by decide]; omega
theorem inB01_f1 {x : Int32} (h : x < 0) : inB x 0 1 = false := by rw [inB_f]; exact fun z => z.1 h
theorem inB01_f2 {x : Int32} (h : 2 ≤ x) : inB x 0 1 = false := by
  rw [inB_f]; intro z; apply z.2
  have := Int32.le_iff_toInt_le.mp h
  rw [show (2 : Int32).toInt = 2 from by decide] at this
  rw [Int32.lt_iff_toInt_lt, show (1 : Int32).toInt = 1 from by decide]; omega
theorem cpS_5 (f h : Nat → Int32) : cpS f h 5 = nI (cn h) := by
  unfold cpS; rw [upd_ne (by decide), upd_ne (by decide), upd_ne (by decide), upd_self]
theorem chK_eq (x : Int64) (k : Nat) : (shK x k).toInt32 &&& 255 = chK x k := by
  unfold chK; rw [Int64.toInt32_and]; rfl
/-- how many signs the class finds in the number: from place i on, u places more -/
def siN (x : Int64) : Nat → Nat → Nat
  | 0, i => i
  | u + 1, i => if chK x i = 0 then (if lg_cmp (shK x i) 0 = 0 then i else 0) else if chK x i < 33 then 0 else if chK x i ≤ 126 then siN x u (i + 1) else 0
theorem siN_le (x : Int64) : ∀ u i, siN x u i ≤ i + u := by
  intro u
  induction u with
  | zero => intro i; exact Nat.le_refl _
  | succ u ih =>
    intro i; unfold siN
    split
    · split <;> omega
    · split
      · omega
      · split
        · have := ih (i + 1); omega
        · omega
theorem siN_ok (x : Int64) : ∀ u i, ∀ k, i ≤ k → k < siN x u i → inB (chK x k) 33 126 = true := by
  intro u
  induction u with
  | zero => intro i k h1 h2; exact absurd h2 (by show ¬ k < i; omega)
  | succ u ih =>
    intro i k h1 h2
    unfold siN at h2
    split at h2
    · split at h2 <;> omega
    · split at h2
      · omega
      · next h4 =>
        split at h2
        · next h5 =>
          by_cases e : k = i
          · subst e; rw [inB_t]; exact ⟨h4, Int32.not_lt.mpr h5⟩
          · exact ih (i + 1) k (by omega) h2
        · omega
theorem inB_sm {x : Int32} (h : inB x 33 126 = true) : ∃ n, n < 128 ∧ x = nI n := by
  obtain ⟨h1, h2⟩ := inB_t.mp h
  have h0 : ¬ x < 0 := fun z => h1 (by
    rw [Int32.lt_iff_toInt_lt] at z ⊢
    rw [show (0 : Int32).toInt = 0 from by decide] at z
    rw [show (33 : Int32).toInt = 33 from by decide]; omega)
  obtain ⟨n, hn, e⟩ := nI_of h0
  refine ⟨n, ?_, e⟩
  rw [e] at h2
  exact Nat.lt_of_not_le fun z => h2 ((nI_ltI (a := 126) (b := n) (by decide) hn).mpr (by omega))
theorem vpn_ch {x : Int32} (h : inB x 33 126 = true) : vp_nar .char x = x := by
  obtain ⟨n, hn, e⟩ := inB_sm h
  rw [e]; exact (show ∀ n, n < 128 → vp_nar .char (nI n) = nI n from by decide +kernel) n hn
theorem i2c_ch {x : Int32} (h : inB x 33 126 = true) : (x.toUInt32 % 65536).toInt32 = x := by
  obtain ⟨n, hn, e⟩ := inB_sm h
  rw [e]; exact (show ∀ n, n < 128 → ((nI n).toUInt32 % 65536).toInt32 = nI n from by decide +kernel) n hn
def sgM (C : MS) (L : Nat) (w : Nat → Int32) : MS := mset (mrow C 12 w) 10 1 (nI L)
section SG0
variable {C : MS} {L L' : Nat} {w w' : Nat → Int32}
theorem sgM_1 : sgM C L w 10 1 = nI L := mset_eq _ _ _ _
theorem sgM_12 : sgM C L w 12 = w := by unfold sgM; rw [mset_ne _ (by decide), mrow_s]
theorem sgM_ne {a : Nat} (h : a ≠ 10) (h2 : a ≠ 12) : sgM C L w a = C a := by unfold sgM; rw [mset_ne _ h, mrow_n _ h2]
theorem sgM_o {j : Nat} (h : j ≠ 1) : sgM C L w 10 j = C 10 j := by unfold sgM; rw [mset_nj _ h, mrow_n _ (by decide)]
theorem sgM_add {x : Int32} : mset (mset (sgM C L w) 12 L x) 10 1 (nI L') = sgM C L' (upd w L x) := by
  funext a b
  by_cases h : a = 10
  · subst h
    by_cases h2 : b = 1
    · subst h2; rw [sgM_1, mset_eq]
    · rw [sgM_o h2, mset_nj _ h2, mset_nk _ (by decide), sgM_o h2]
  · by_cases h2 : a = 12
    · subst h2; rw [sgM_12, mset_ne _ (by decide), mset_row, sgM_12]
    · rw [sgM_ne h h2, mset_ne _ h, mset_ne _ h2, sgM_ne h h2]
theorem sgM_id (h : C 10 1 = nI L) : sgM C L (C 12) = C := by unfold sgM; rw [mrow_self, mset_id h]
end SG0
/-- the signs when m of the n are put -/
def ptP (b : Nat → Int32) (x : Int64) (L n : Nat) : Nat → Nat → Int32
  | 0 => b
  | m + 1 => upd (ptP b x L n m) (L + m) (chK x (n - m - 1))
theorem jm1_lt {j : Nat} (h : j < 2 ^ 30) : nI j - 1 < 0 ↔ j = 0 := by
  constructor
  · intro z
    cases j with
    | zero => rfl
    | succ j => rw [show (1 : Int32) = nI 1 from rfl, pk_sub (by omega)] at z; exact absurd z (nI_pos (by omega))
  · rintro rfl; decide
def c1R (f : Nat → Int32) (c : Int32) (w : Nat → Int32) (L : Nat) : Int32 := if c = 43 then acR f (atR w L 0) (atR w L 1) (atR w L 2) else if c = 97 then ccR f 1 else if c = 98 then bwR f w L else if c = 108 then alR f (atR w L 0) else if c = 115 then ccR f 0 else if c = 116 then psR f (atR w L 0) else -3
def c1F (f : Nat → Int32) (c : Int32) (w : Nat → Int32) (L : Nat) : Nat → Int32 := if c = 43 then acF f (atR w L 0) (atR w L 1) (atR w L 2) else if c = 97 then ccF f 1 else if c = 98 then bwF f w L else if c = 108 then alF f (atR w L 0) else if c = 115 then ccF f 0 else if c = 116 then psF f (atR w L 0) else f
/-! orders carried out -/
def oneR (f : Nat → Int32) (c : Int32) (R : (Int32 × Int32 × Int32) × Nat × (Nat → Int32)) : Int32 := if c = 43 then acR f R.1.1 R.1.2.1 R.1.2.2 else if c = 97 then ccR f 1 else if c = 98 then bwR f R.2.2 R.2.1 else if c = 108 then alR f R.1.1 else if c = 115 then ccR f 0 else if c = 116 then psR f R.1.1 else -3
def oneF (f : Nat → Int32) (c : Int32) (R : (Int32 × Int32 × Int32) × Nat × (Nat → Int32)) : Nat → Int32 := if c = 43 then acF f R.1.1 R.1.2.1 R.1.2.2 else if c = 97 then ccF f 1 else if c = 98 then bwF f R.2.2 R.2.1 else if c = 108 then alF f R.1.1 else if c = 115 then ccF f 0 else if c = 116 then psF f R.1.1 else f
theorem hrN_cong {f w w2 : Nat → Int32} : ∀ n, (∀ j, j < n → w j = w2 j) → hrN f w n = hrN f w2 n := by
  intro n
  cases n with
  | zero => intro _; rfl
  | succ n => intro h; show f (12 + 8 * ix (w n) + 0) = f (12 + 8 * ix (w2 n) + 0); rw [h n (by omega)]
theorem caN_cong {f w w2 : Nat → Int32} : ∀ n, (∀ j, j < n → w j = w2 j) → caN f w n = caN f w2 n := by
  intro n
  induction n with
  | zero => intro _; rfl
  | succ n ih => intro h; unfold caN ndN; rw [h n (by omega), ih (fun j hj => h j (by omega))]
theorem spN_cong {f w w2 : Nat → Int32} : ∀ n, (∀ j, j < n → w j = w2 j) → spN f w n = spN f w2 n := by
  intro n
  induction n with
  | zero => intro _; rfl
  | succ n ih => intro h; unfold spN ndN; rw [h n (by omega), ih (fun j hj => h j (by omega)), caN_cong n (fun j hj => h j (by omega)), hrN_cong n (fun j hj => h j (by omega))]
theorem wkN_cong {f w w2 : Nat → Int32} : ∀ n, (∀ j, j < n → w j = w2 j) → wkN f w n = wkN f w2 n := by
  intro n
  induction n with
  | zero => intro _; rfl
  | succ n ih => intro h; unfold wkN; rw [h n (by omega), ih (fun j hj => h j (by omega))]
theorem moN_cong {f w w2 : Nat → Int32} (n : Nat) (h : ∀ j, j < n → w j = w2 j) : moN f w n = moN f w2 n := by
  unfold moN; rw [spN_cong n h, hrN_cong n h, wkN_cong n h]
theorem gdB_cong {f w w2 : Nat → Int32} : ∀ n, (∀ j, j < n → w j = w2 j) → gdB f w n = gdB f w2 n := by
  intro n
  induction n with
  | zero => intro _; rfl
  | succ n ih => intro h; unfold gdB; rw [h n (by omega), ih (fun j hj => h j (by omega))]
theorem wbN_cong {f w w2 : Nat → Int32} : ∀ n, (∀ j, j < n → w j = w2 j) → wbN f w n = wbN f w2 n := by
  intro n
  induction n with
  | zero => intro _; rfl
  | succ n ih => intro h; unfold wbN; rw [h n (by omega), ih (fun j hj => h j (by omega))]
theorem bw_cong {f w w2 : Nat → Int32} {n : Nat} (h : ∀ j, j < n → w j = w2 j) : bwR f w n = bwR f w2 n ∧ bwF f w n = bwF f w2 n := by
  unfold bwR bwF; rw [moN_cong n h, gdB_cong n h, wbN_cong n h]; exact ⟨rfl, rfl⟩
theorem c1_one {f : Nat → Int32} {c : Int32} {w : Nat → Int32} {L : Nat} {R : (Int32 × Int32 × Int32) × Nat × (Nat → Int32)} (h : nmS c R L w) : c1R f c w L = oneR f c R ∧ c1F f c w L = oneF f c R := by
  obtain ⟨h1, h2, h3, h4⟩ := h
  unfold c1R c1F oneR oneF
  by_cases e : c = 43
  · obtain ⟨a, b, d, g⟩ := h1 e
    subst a
    rw [if_pos e, if_pos e, if_pos e, if_pos e, show (0 : Int32) = nI 0 from rfl, show (1 : Int32) = nI 1 from rfl, show (2 : Int32) = nI 2 from rfl, atR_in (by decide) (by decide), atR_in (by decide) (by decide), atR_in (by decide) (by decide), b, d, g]
    exact ⟨rfl, rfl⟩
  rw [if_neg e, if_neg e, if_neg e, if_neg e]
  by_cases e : c = 97
  · rw [if_pos e, if_pos e, if_pos e, if_pos e]; exact ⟨rfl, rfl⟩
  rw [if_neg e, if_neg e, if_neg e, if_neg e]
  by_cases e : c = 98
  · obtain ⟨a, b⟩ := h4 e
    rw [if_pos e, if_pos e, if_pos e, if_pos e, ← a]
    exact bw_cong b
  rw [if_neg e, if_neg e, if_neg e, if_neg e]
  by_cases e : c = 108
  · obtain ⟨a, b⟩ := h2 e
    subst a
    rw [if_pos e, if_pos e, if_pos e, if_pos e, show (0 : Int32) = nI 0 from rfl, atR_in (by decide) (by decide), b]; exact ⟨rfl, rfl⟩
  rw [if_neg e, if_neg e, if_neg e, if_neg e]
  by_cases e : c = 115
  · rw [if_pos e, if_pos e, if_pos e, if_pos e]; exact ⟨rfl, rfl⟩
  rw [if_neg e, if_neg e, if_neg e, if_neg e]
  by_cases e : c = 116
  · obtain ⟨a, b⟩ := h3 e
    subst a
    rw [if_pos e, if_pos e, if_pos e, if_pos e, show (0 : Int32) = nI 0 from rfl, atR_in (by decide) (by decide), b]; exact ⟨rfl, rfl⟩
  rw [if_neg e, if_neg e, if_neg e, if_neg e]; exact ⟨rfl, rfl⟩
/-- the orders from p on, as the class carries them out: how many; the state then -/
def ccO (T : Nat → Int32) (len : Nat) : Nat → Nat → (Nat → Int32) → Nat × (Nat → Int32)
  | 0, _, f => (0, f)
  | u + 1, p, f =>
    if 0 < p ∧ ¬ chr T len p = 59 then (0, f)
    else if (rO T len (p0of T len p)).1 = true then
      (if oneR f (chr T len (p0of T len p)) (rO T len (p0of T len p)).2.2 < 0 then (0, oneF f (chr T len (p0of T len p)) (rO T len (p0of T len p)).2.2)
       else ((ccO T len u (rO T len (p0of T len p)).2.1 (oneF f (chr T len (p0of T len p)) (rO T len (p0of T len p)).2.2)).1 + 1, (ccO T len u (rO T len (p0of T len p)).2.1 (oneF f (chr T len (p0of T len p)) (rO T len (p0of T len p)).2.2)).2))
    else (0, f)
/-- all but the state and what reading writes -/
def Pg (C C1 : MS) : Prop := (∀ a, a ≠ 0 → a ≠ 10 → a ≠ 13 → C1 a = C a) ∧ ∀ j, j ≠ 2 → j ≠ 3 → j ≠ 4 → C1 10 j = C 10 j
theorem Pf.pg {C C1 : MS} (h : Pf C C1) : Pg C C1 := ⟨fun a _ x y => h.1 a x y, h.2⟩
theorem Pg.trans {A B D : MS} (h : Pg A B) (h2 : Pg B D) : Pg A D := ⟨fun a x z y => (h2.1 a x z y).trans (h.1 a x z y), fun j a b c => (h2.2 j a b c).trans (h.2 j a b c)⟩
theorem Pg.row {C : MS} {f : Nat → Int32} : Pg C (mrow C 0 f) := ⟨fun a h _ _ => mrow_n _ h _, fun j _ _ _ => by rw [mrow_n _ (by decide)]⟩
theorem ptP_ok {b : Nat → Int32} {x : Int64} {L n : Nat} : ∀ m, m ≤ n → ∀ j, ptP b x L n m j = if L ≤ j ∧ j < L + m then chK x (n - (j - L) - 1) else b j := by
  intro m
  induction m with
  | zero => intro _ j; rw [if_neg (by omega)]; rfl
  | succ m ih =>
    intro hm j
    unfold ptP
    by_cases h : j = L + m
    · subst h; rw [upd_self, if_pos (by omega), show L + m - L = m by omega]
    · rw [upd_ne h, ih (by omega) j]
      by_cases h2 : L ≤ j ∧ j < L + m
      · rw [if_pos h2, if_pos (by omega)]
      · rw [if_neg h2, if_neg (by omega)]
end
section
/-! carrying out -/
section CO
variable {T : Nat → Int32} {len u p : Nat} {f : Nat → Int32}
theorem ccO_no1 (h0 : 0 < p) (h : ¬ chr T len p = 59) : ccO T len u p f = (0, f) := by
  cases u with
  | zero => rfl
  | succ u => unfold ccO; rw [if_pos ⟨h0, h⟩]
theorem ccO_no2 (hz : p = 0 ∨ (0 < p ∧ chr T len p = 59)) (hR : (rO T len (p0of T len p)).1 = false) : ccO T len u p f = (0, f) := by
  cases u with
  | zero => rfl
  | succ u =>
    unfold ccO
    rw [if_neg (fun z => by rcases hz with h | h; omega; exact z.2 h.2), if_neg (by rw [hR]; decide)]
theorem ccO_no3 (hz : p = 0 ∨ (0 < p ∧ chr T len p = 59)) (hR : (rO T len (p0of T len p)).1 = true) (hr : ¬ 0 ≤ oneR f (chr T len (p0of T len p)) (rO T len (p0of T len p)).2.2) : ccO T len (u + 1) p f = (0, oneF f (chr T len (p0of T len p)) (rO T len (p0of T len p)).2.2) := by
  unfold ccO
  rw [if_neg (fun z => by rcases hz with h | h; omega; exact z.2 h.2), if_pos hR, if_pos (Int32.not_le.mp hr)]
theorem ccO_go (hz : p = 0 ∨ (0 < p ∧ chr T len p = 59)) (hR : (rO T len (p0of T len p)).1 = true) (hr : 0 ≤ oneR f (chr T len (p0of T len p)) (rO T len (p0of T len p)).2.2) : ccO T len (u + 1) p f = ((ccO T len u (rO T len (p0of T len p)).2.1 (oneF f (chr T len (p0of T len p)) (rO T len (p0of T len p)).2.2)).1 + 1, (ccO T len u (rO T len (p0of T len p)).2.1 (oneF f (chr T len (p0of T len p)) (rO T len (p0of T len p)).2.2)).2) := by
  conv => lhs; unfold ccO
  rw [if_neg (fun z => by rcases hz with h | h; omega; exact z.2 h.2), if_pos hR, if_neg (Int32.not_lt.mpr hr)]
end CO
theorem ccO_le (T : Nat → Int32) (len : Nat) : ∀ u p f, (ccO T len u p f).1 ≤ u := by
  intro u
  induction u with
  | zero => intro p f; exact Nat.le_refl _
  | succ u ih =>
    intro p f
    unfold ccO
    split
    · exact Nat.zero_le _
    · split
      · split
        · exact Nat.zero_le _
        · have := ih (rO T len (p0of T len p)).2.1 (oneF f (chr T len (p0of T len p)) (rO T len (p0of T len p)).2.2)
          show _ + 1 ≤ u + 1; omega
      · exact Nat.zero_le _
/-- what the orders carried out leave -/
def coC (C : MS) (pi : Nat → Nat) (d : Nat) (F : Nat → Int32) (C1 : MS) (pi1 : Nat → Nat) : Prop :=
  C1 0 = F ∧ C1 (pi d) = cpS (C (pi d)) (C 0) ∧ (∀ a, a ≠ 0 → a ≠ 10 → a ≠ 13 → a ≠ pi d → C1 a = C a) ∧ C1 10 1 = 0 ∧ C1 10 0 = nI (if d < 6 then d + 1 else d) ∧ pi1 = (if d < 6 then pi else rot pi)
end
section
/-! the relation, first: a row of the class is the reference's row on the clocks that there are, and anything behind them -/
def Mx (n : Nat) (h f : Nat → Int32) : Nat → Int32 := fun j => if j < 12 + 8 * n then h j else f j
section MX
variable {n : Nat} {h f : Nat → Int32}
theorem Mx_in {j : Nat} (hj : j < 12 + 8 * n) : Mx n h f j = h j := if_pos hj
theorem Mx_out {j : Nat} (hj : ¬ j < 12 + 8 * n) : Mx n h f j = f j := if_neg hj
theorem Mx_upd {j : Nat} {x : Int32} (hj : j < 12 + 8 * n) : upd (Mx n h f) j x = Mx n (upd h j x) f := by
  funext k
  by_cases e : k = j
  · subst e; rw [upd_self, Mx_in hj, upd_self]
  · rw [upd_ne e]
    by_cases hk : k < 12 + 8 * n
    · rw [Mx_in hk, Mx_in hk, upd_ne e]
    · rw [Mx_out hk, Mx_out hk]
theorem Mx_Mx {h' : Nat → Int32} : Mx n h (Mx n h' f) = Mx n h f := by
  funext k
  by_cases hk : k < 12 + 8 * n
  · rw [Mx_in hk, Mx_in hk]
  · rw [Mx_out hk, Mx_out hk, Mx_out hk]
theorem Mx_self : Mx n h h = h := by
  funext k
  by_cases hk : k < 12 + 8 * n
  · rw [Mx_in hk]
  · rw [Mx_out hk]
theorem Mx_of (e : ∀ j, j < 12 + 8 * n → f j = h j) : f = Mx n h f := by
  funext k
  by_cases hk : k < 12 + 8 * n
  · rw [Mx_in hk, e k hk]
  · rw [Mx_out hk]
theorem rt_Mx {c : Nat} (hc : c < n) : rt (Mx n h f) c = rt h c := by
  unfold rt; rw [Mx_in (by omega), Mx_in (by omega)]
theorem offB_Mx {c : Nat} (hc : c < n) (t : Int32) : offB (Mx n h f) c t = offB h c t := by
  unfold offB; rw [Mx_in (by omega)]
theorem ladP_Mx (r : Int32) : ∀ k, k ≤ 4 → ladP (Mx n h f) r k = ladP h r k := by
  intro k
  induction k with
  | zero => intro _; rfl
  | succ k ih =>
    intro hk
    unfold ladP
    rw [ih (by omega)]
    cases e : ladP h r k with
    | none => simp only [Mx_in (n := n) (h := h) (f := f) (show 8 + k < 12 + 8 * n by omega)]
    | some j =>
      have hj := ladP_lt h r k j e
      simp only [Mx_in (n := n) (h := h) (f := f) (show 8 + k < 12 + 8 * n by omega), Mx_in (n := n) (h := h) (f := f) (show 8 + j < 12 + 8 * n by omega)]
theorem ln_Mx : ln (Mx n h f) = ln h := by unfold ln; rw [Mx_in (by omega)]
theorem cn_Mx : cn (Mx n h f) = cn h := by unfold cn; rw [Mx_in (by omega)]
theorem Wk_Mx (w : Wk h) : Wk (Mx n h f) := w.low (Mx_in (by omega)) (Mx_in (by omega))
theorem ladF_Mx {c : Nat} (hc : c < n) (hl : ln h ≤ 4) : ladF (Mx n h f) c = ladF h c := by
  unfold ladF; rw [ln_Mx, ladP_Mx _ _ hl, Mx_in (by omega)]
theorem canW_Mx {c : Nat} (hc : c < n) (hl : ln h ≤ 4) : canW (Mx n h f) c = canW h c := by
  unfold canW; rw [ladF_Mx hc hl, Mx_in (by omega)]
theorem isCb_Mx (x : Int32) : isCb (Mx n h f) x = isCb h x := by unfold isCb; rw [Mx_in (by omega)]
end MX
theorem upd_comm {f : Nat → Int32} {a b : Nat} {x y : Int32} (h : a ≠ b) : upd (upd f a x) b y = upd (upd f b y) a x := by
  funext k
  by_cases e : k = b
  · subst e; rw [upd_self, upd_ne (Ne.symm h), upd_self]
  · rw [upd_ne e]
    by_cases e2 : k = a
    · subst e2; rw [upd_self, upd_self]
    · rw [upd_ne e2, upd_ne e2, upd_ne e]
theorem upd_same {f : Nat → Int32} {k : Nat} {x : Int32} (h : f k = x) : upd f k x = f := by subst h; exact upd_id f k
/-! what the relation needs of the reference's row -/
def IvC (h : Nat → Int32) (D c : Nat) : Prop := (∃ a, a ≤ 99 ∧ h (12 + 8 * c + 0) = nI a) ∧ (∃ a, a ≤ 30 ∧ h (12 + 8 * c + 1) = nI a) ∧ inB (h (12 + 8 * c + 3)) (-20) 20 = true ∧ (∃ a, a ≤ D ∧ h (12 + 8 * c + 5) = nI a) ∧ (h (12 + 8 * c + 6) = 1 ∨ (h (12 + 8 * c + 6) = 0 ∧ h (12 + 8 * c + 4) = 43200))
def IvS (h : Nat → Int32) : Prop := (∃ a, 1 ≤ a ∧ a ≤ 999 ∧ h 0 = nI a) ∧ (∃ a, 1 ≤ a ∧ a ≤ 30 ∧ h 1 = nI a) ∧ (∃ a, 1 ≤ a ∧ a ≤ 30 ∧ h 2 = nI a) ∧ (∃ a, 1 ≤ a ∧ a ≤ 30 ∧ h 3 = nI a) ∧ ∀ j, j < ln h → ∃ a, 1 ≤ a ∧ a ≤ 30 ∧ h (8 + j) = nI a
def IvD (h : Nat → Int32) (D : Nat) : Prop := Wk h ∧ IvS h ∧ ∀ c, c < cn h → IvC h D c
def Iv (h : Nat → Int32) : Prop := ∃ D, D ≤ 9999 ∧ h 4 = nI D ∧ IvD h D
theorem Iv.W {h : Nat → Int32} (v : Iv h) : Wk h := by obtain ⟨D, _, _, w, _⟩ := v; exact w
theorem Iv.S {h : Nat → Int32} (v : Iv h) : IvS h := by obtain ⟨D, _, _, _, w, _⟩ := v; exact w
theorem IvC.congr {h h' : Nat → Int32} {D c : Nat} (v : IvC h D c) (e : ∀ w, w < 8 → h' (12 + 8 * c + w) = h (12 + 8 * c + w)) : IvC h' D c := by
  unfold IvC
  rw [e 0 (by decide), e 1 (by decide), e 3 (by decide), e 4 (by decide), e 5 (by decide), e 6 (by decide)]
  exact v
theorem IvS.congr {h h' : Nat → Int32} (v : IvS h) (w : ln h ≤ 4) (e : ∀ j, j < 12 → h' j = h j) : IvS h' := by
  unfold IvS
  rw [e 0 (by decide), e 1 (by decide), e 2 (by decide), e 3 (by decide), ln_low (e 6 (by decide))]
  refine ⟨v.1, v.2.1, v.2.2.1, v.2.2.2.1, fun j hj => ?_⟩
  rw [e (8 + j) (by omega)]; exact v.2.2.2.2 j hj
theorem Iv.congr {h h' : Nat → Int32} (v : Iv h) (e : ∀ j, j < 12 + 8 * cn h → h' j = h j) : Iv h' := by
  obtain ⟨D, hD, h4, W, S, c⟩ := v
  refine ⟨D, hD, by rw [e 4 (by omega)]; exact h4, W.low (e 5 (by omega)) (e 6 (by omega)), S.congr W.2.2.2 (fun j hj => e j (by omega)), fun k hk => ?_⟩
  rw [cn_low (e 5 (by omega))] at hk
  exact (c k hk).congr (fun w hw => e _ (by omega))
/-- a row of the class beside a row of the reference -/
def Ro (f h : Nat → Int32) : Prop := Iv h ∧ ∀ j, j < 12 + 8 * cn h → f j = h j
theorem Ro.mx {f h : Nat → Int32} (r : Ro f h) : f = Mx (cn h) h f := Mx_of r.2
theorem Ro.of {f h : Nat → Int32} (v : Iv h) (f0 : Nat → Int32) (e : f = Mx (cn h) h f0) : Ro f h := ⟨v, fun j hj => by rw [e, Mx_in hj]⟩
theorem Ro.congr {f f' h h' : Nat → Int32} (r : Ro f h) (e : ∀ j, j < 140 → h' j = h j) (e2 : ∀ j, j < 140 → f' j = f j) : Ro f' h' := by
  have hc := r.1.W.2.1
  refine ⟨r.1.congr (fun j hj => e j (by omega)), fun j hj => ?_⟩
  rw [cn_low (e 5 (by decide))] at hj
  rw [e j (by omega), e2 j (by omega)]; exact r.2 j hj
theorem Ro.W {f h : Nat → Int32} (r : Ro f h) : Wk f := by rw [r.mx]; exact Wk_Mx r.1.W
theorem Ro.ec {f h : Nat → Int32} (r : Ro f h) : cn f = cn h := cn_low (r.2 5 (by omega))
theorem Ro.L {f h : Nat → Int32} (r : Ro f h) : Lad f := by
  obtain ⟨⟨D, hD, h4, W, S, c⟩, e⟩ := r
  have l4 := W.2.2.2
  refine ⟨fun j hj => ?_, fun k hk => ?_⟩
  · rw [ln_low (e 6 (by omega))] at hj
    obtain ⟨a, h1, h2, h3⟩ := S.2.2.2.2 j hj
    rw [e (8 + j) (by omega), h3, show (31 : Int32) = nI 31 from rfl, nI_leI (by decide) (by omega)]; omega
  · rw [cn_low (e 5 (by omega))] at hk
    obtain ⟨a, h2, h3⟩ := (c k hk).2.1
    rw [e _ (by omega), h3, show (0 : Int32) = nI 0 from rfl, nI_leI (by decide) (by omega)]; omega
theorem Ro.T {f h : Nat → Int32} (r : Ro f h) : Tm f := by
  obtain ⟨⟨D, hD, h4, W, S, c⟩, e⟩ := r
  refine ⟨?_, fun k hk => ?_⟩
  · obtain ⟨a, h1, h2, h3⟩ := S.2.1
    rw [e 1 (by omega), h3, ix_nI (by omega)]; exact ⟨rfl, h2⟩
  · rw [cn_low (e 5 (by omega))] at hk
    obtain ⟨a, h2, h3⟩ := (c k hk).2.2.2.1
    rw [e _ (by omega), h3, ix_nI (by omega)]; exact ⟨rfl, by omega⟩
theorem goOk_Mx {f h : Nat → Int32} (v : Iv h) (g : goOk f) : goOk (Mx (cn h) h f) := by
  obtain ⟨D, hD, h4, W, S, c⟩ := v
  intro k hk
  by_cases z : k < cn h
  · rw [Mx_in (by omega)]
    rcases (c k z).2.2.2.2 with h1 | h1
    · exact Or.inr h1
    · exact Or.inl h1.1
  · rw [Mx_out (by omega)]; exact g k hk
/-! copying a State -/
theorem cpK_e (f h : Nat → Int32) : ∀ n j, cpK f h n j = if 12 ≤ j ∧ j < 12 + 8 * n then h j else f j := by
  intro n
  induction n with
  | zero => intro j; rw [if_neg (by omega)]; rfl
  | succ n ih =>
    intro j
    unfold cpK cpyC
    by_cases h1 : 12 + 8 * n ≤ j ∧ j < 12 + 8 * n + 8
    · rw [if_pos (by omega)]
      obtain ⟨w, hw, rfl⟩ : ∃ w, w < 8 ∧ j = 12 + 8 * n + w := ⟨j - (12 + 8 * n), by omega, by omega⟩
      rcases (show w = 0 ∨ w = 1 ∨ w = 2 ∨ w = 3 ∨ w = 4 ∨ w = 5 ∨ w = 6 ∨ w = 7 by omega) with rfl | rfl | rfl | rfl | rfl | rfl | rfl | rfl <;> simp [upd]
    · have e : ∀ w, w < 8 → j ≠ 12 + 8 * n + w := fun w hw => by omega
      rw [upd_ne (e 6 (by decide)), upd_ne (e 7 (by decide)), upd_ne (e 5 (by decide)), upd_ne (e 4 (by decide)), upd_ne (e 3 (by decide)), upd_ne (e 2 (by decide)), upd_ne (e 1 (by decide)), upd_ne (e 0 (by decide)), ih]
      by_cases h2 : 12 ≤ j ∧ j < 12 + 8 * n
      · rw [if_pos h2, if_pos (by omega)]
      · rw [if_neg h2, if_neg (by omega)]
theorem cpS_Mx {f g : Nat → Int32} (w : Wk g) : cpS f g = Mx (cn g) g f := by
  funext j
  unfold cpS
  by_cases h7 : j = 7
  · subst h7; rw [upd_self, Mx_in (by omega)]
  rw [upd_ne h7]
  by_cases h4 : j = 4
  · subst h4; rw [upd_self, Mx_in (by omega)]
  rw [upd_ne h4]
  by_cases h6 : j = 6
  · subst h6; rw [upd_self, Mx_in (by omega)]
  rw [upd_ne h6]
  by_cases h5 : j = 5
  · subst h5; rw [upd_self, Mx_in (by omega)]; exact w.1.symm
  rw [upd_ne h5, cpK_e]
  by_cases h1 : 12 ≤ j ∧ j < 12 + 8 * cn g
  · rw [if_pos h1, Mx_in h1.2]
  rw [if_neg h1]
  by_cases h2 : j < 12 + 8 * cn g
  · rw [Mx_in h2]
    unfold laS stS
    by_cases h3 : 8 ≤ j ∧ j < 12
    · rw [if_pos h3]
    · rw [if_neg h3, if_pos (by omega)]
  · rw [Mx_out h2]
    unfold laS stS
    rw [if_neg (by omega), if_neg (by omega)]
theorem Ro.cpd {g h : Nat → Int32} (r : Ro g h) (f : Nat → Int32) : Ro (cpS f g) h := by
  rw [cpS_Mx r.W, r.ec]
  refine ⟨r.1, fun j hj => ?_⟩
  rw [Mx_in hj]; exact r.2 j hj
theorem goOk_cpS {g h f : Nat → Int32} (r : Ro g h) (k : goOk f) : goOk (cpS f g) := by
  rw [cpS_Mx r.W, r.ec]
  have e : Mx (cn h) g f = Mx (cn h) h f := by
    funext j
    by_cases z : j < 12 + 8 * cn h
    · rw [Mx_in z, Mx_in z]; exact r.2 j z
    · rw [Mx_out z, Mx_out z]
  rw [e]; exact goOk_Mx r.1 k
end
section
/-! the relation, second: what the changes do, on either side -/
def GoO (h : Nat → Int32) (c : Nat) : Prop := h (12 + 8 * c + 6) = 1 ∨ (h (12 + 8 * c + 6) = 0 ∧ h (12 + 8 * c + 4) = 43200)
theorem IvC.go {h : Nat → Int32} {D c : Nat} (v : IvC h D c) : GoO h c := v.2.2.2.2
section R2
variable {n c : Nat} {h f : Nat → Int32}
theorem dayC_Mx (hc : c < n) (wd : Int32) : dayC (Mx n h f) c wd = Mx n (dayC h c wd) f := by
  unfold dayC
  rw [rt_Mx hc, Mx_in (show 12 + 8 * c + 6 < 12 + 8 * n by omega), Mx_in (show 12 + 8 * c + 5 < 12 + 8 * n by omega), Mx_in (show 12 + 8 * c + 4 < 12 + 8 * n by omega)]
  by_cases h1 : h (12 + 8 * c + 6) = 0
  · rw [if_pos h1, if_pos h1]
    by_cases h2 : h (12 + 8 * c + 5) + 1 ≤ wd
    · rw [if_pos h2, if_pos h2, Mx_upd (by omega)]
    · rw [if_neg h2, if_neg h2, Mx_upd (by omega), Mx_upd (by omega), Mx_upd (by omega)]
  · rw [if_neg h1, if_neg h1]
    by_cases h2 : h (12 + 8 * c + 5) + 1 ≤ wd
    · rw [if_pos h2, if_pos h2, Mx_upd (by omega), Mx_upd (by omega)]
    · rw [if_neg h2, if_neg h2, Mx_upd (by omega), Mx_upd (by omega), Mx_upd (by omega), Mx_upd (by omega)]
theorem dayC_M (g : GoO h c) : dayC h c (h 1) = dayM h c := by
  unfold dayC dayM
  rcases g with g | ⟨g, g4⟩
  · rw [if_neg (by rw [g]; decide), if_pos g]
    by_cases h2 : h (12 + 8 * c + 5) + 1 ≤ h 1
    · rw [if_pos h2, if_neg (fun z => z h2), upd_comm (by omega)]
    · rw [if_neg h2, if_pos h2]
      rw [upd_comm (f := h) (a := 12 + 8 * c + 4) (b := 12 + 8 * c + 5) (by omega)]
  · rw [if_pos g, if_neg (show ¬ h (12 + 8 * c + 6) = 1 by rw [g]; decide)]
    by_cases h2 : h (12 + 8 * c + 5) + 1 ≤ h 1
    · rw [if_pos h2]
    · rw [if_neg h2, upd_same (f := upd h (12 + 8 * c + 5) _) (k := 12 + 8 * c + 6) (by rw [upd_ne (by omega)]; exact g), upd_same (by rw [upd_ne (by omega)]; exact g4)]
/-- another clock's places, and a clock's places that a day leaves -/
theorem dayM_ot {c' w : Nat} (hw : w < 8) (hne : c' ≠ c) : dayM h c (12 + 8 * c' + w) = h (12 + 8 * c' + w) := by
  have a : ∀ v, v < 8 → 12 + 8 * c' + w ≠ 12 + 8 * c + v := fun v hv => by omega
  unfold dayM
  split
  · split
    · rw [upd_ne (a 4 (by decide)), upd_ne (a 6 (by decide)), upd_ne (a 4 (by decide)), upd_ne (a 5 (by decide))]
    · rw [upd_ne (a 4 (by decide)), upd_ne (a 5 (by decide))]
  · rw [upd_ne (a 5 (by decide))]
theorem dayM_st {w : Nat} (hw : w < 4 ∨ w = 7) : dayM h c (12 + 8 * c + w) = h (12 + 8 * c + w) := by
  unfold dayM
  split
  · split
    · rw [upd_ne (by omega), upd_ne (by omega), upd_ne (by omega), upd_ne (by omega)]
    · rw [upd_ne (by omega), upd_ne (by omega)]
  · rw [upd_ne (by omega)]
theorem dayM_5 : dayM h c (12 + 8 * c + 5) = h (12 + 8 * c + 5) + 1 := by
  unfold dayM
  split
  · split
    · rw [upd_ne (by omega), upd_ne (by omega), upd_ne (by omega), upd_self]
    · rw [upd_ne (by omega), upd_self]
  · rw [upd_self]
theorem dayM_go (g : GoO h c) : GoO (dayM h c) c := by
  unfold GoO dayM
  rcases g with g | ⟨g, g4⟩
  · rw [if_pos g]
    split
    · exact Or.inr ⟨by rw [upd_ne (by omega), upd_self], by rw [upd_self]⟩
    · exact Or.inl (by rw [upd_ne (by omega), upd_ne (by omega)]; exact g)
  · rw [if_neg (by rw [g]; decide)]
    exact Or.inr ⟨by rw [upd_ne (by omega)]; exact g, by rw [upd_ne (by omega)]; exact g4⟩
theorem dayM_IvC {D : Nat} (v : IvC h D c) : IvC (dayM h c) (D + 1) c := by
  obtain ⟨v0, v1, v3, ⟨a, ha, v5⟩, v6⟩ := v
  refine ⟨by rw [dayM_st (by omega)]; exact v0, by rw [dayM_st (by omega)]; exact v1, by rw [dayM_st (by omega)]; exact v3, ⟨a + 1, by omega, by rw [dayM_5, v5]; exact nI_1 a⟩, dayM_go v6⟩
theorem dayAll_ot (k : Nat) {c' w : Nat} (hw : w < 8) (hk : k ≤ c') : dayAll h k (12 + 8 * c' + w) = h (12 + 8 * c' + w) := by
  induction k with
  | zero => rfl
  | succ k ih => unfold dayAll; rw [dayM_ot hw (by omega)]; exact ih (by omega)
theorem dayAll_IvC {D : Nat} (k : Nat) (v : ∀ c, c < n → IvC h D c) (hk : k ≤ n) : ∀ c, c < n → IvC (dayAll h k) (if c < k then D + 1 else D) c := by
  induction k with
  | zero => intro c hc; rw [if_neg (by omega)]; exact v c hc
  | succ k ih =>
    intro c hc
    have i1 := ih (by omega) c hc
    unfold dayAll
    by_cases e : c = k
    · subst e
      rw [if_neg (by omega)] at i1
      rw [if_pos (by omega)]
      exact dayM_IvC i1
    · have i2 : IvC (dayM (dayAll h k) k) (if c < k then D + 1 else D) c := i1.congr (fun w hw => dayM_ot hw e)
      by_cases z : c < k
      · rw [if_pos z] at i2; rw [if_pos (by omega)]; exact i2
      · rw [if_neg z] at i2; rw [if_neg (by omega)]; exact i2
theorem dcA_Mx {D : Nat} (v : ∀ c, c < n → IvC h D c) : ∀ k, k ≤ n → dcA (Mx n h f) (h 1) k = Mx n (dayAll h k) f := by
  intro k
  induction k with
  | zero => intro _; rfl
  | succ k ih =>
    intro hk
    have g := (dayAll_IvC k v (by omega) k (by omega)).go
    unfold dcA dayAll
    rw [ih (by omega), dayC_Mx (by omega), ← dayAll_lo h k (show 1 < 12 by decide), dayC_M g]
theorem dcD_Mx {D : Nat} (W : Wk h) (v : ∀ c, c < cn h → IvC h D c) : ∀ d, (dcD (Mx (cn h) h f) (h 1) (cn h) d = Mx (cn h) (passD h d) f) ∧ ∀ c, c < cn h → IvC (passD h d) (D + d) c := by
  intro d
  induction d with
  | zero => exact ⟨rfl, v⟩
  | succ d ih =>
    obtain ⟨i1, i2⟩ := ih
    refine ⟨?_, fun c hc => ?_⟩
    · unfold dcD passD
      rw [i1, ← passD_lo h d (show 1 < 12 by decide)]
      exact dcA_Mx i2 _ (Nat.le_refl _)
    · unfold passD
      have := dayAll_IvC (cn h) i2 (Nat.le_refl _) c hc
      rw [if_pos hc] at this
      exact this
/-! winding -/
theorem turC_Mx (hc : c < n) : turC (Mx n h f) c = Mx n (turC h c) f := by
  unfold turC
  rw [rt_Mx hc, Mx_in (show 12 + 8 * c + 3 < 12 + 8 * n by omega)]
  by_cases h1 : rt h c ≤ 0
  · rw [if_pos h1, if_pos h1]
    by_cases h2 : 0 ≤ rt h c
    · rw [if_pos h2, if_pos h2]
    · rw [if_neg h2, if_neg h2]
      by_cases h3 : 20 ≤ h (12 + 8 * c + 3)
      · rw [if_pos h3, if_pos h3]
      · rw [if_neg h3, if_neg h3, Mx_upd (by omega)]
  · rw [if_neg h1, if_neg h1]
    by_cases h4 : h (12 + 8 * c + 3) ≤ -20
    · rw [if_pos h4, if_pos h4]
      by_cases h2 : 0 ≤ rt h c
      · rw [if_pos h2, if_pos h2]
      · rw [if_neg h2, if_neg h2]
        by_cases h3 : 20 ≤ h (12 + 8 * c + 3)
        · rw [if_pos h3, if_pos h3]
        · rw [if_neg h3, if_neg h3, Mx_upd (by omega)]
    · rw [if_neg h4, if_neg h4, Mx_upd (by omega)]
theorem setC_Mx (hc : c < n) : setC (Mx n h f) c = Mx n (setC h c) f := by
  unfold setC
  rw [Mx_in (show 12 + 8 * c + 7 < 12 + 8 * n by omega), Mx_upd (by omega), Mx_upd (by omega), Mx_upd (by omega), Mx_upd (by omega)]
theorem winC_Mx (hc : c < n) (t : Int32) : winC (Mx n h f) c t = Mx n (winC h c t) f := by
  unfold winC
  rw [offB_Mx hc, turC_Mx hc, setC_Mx hc, setC_Mx hc, Mx_in (show 12 + 8 * c + 6 < 12 + 8 * n by omega)]
  by_cases h1 : h (12 + 8 * c + 6) = 0
  · rw [if_pos h1, if_pos h1]
  · rw [if_neg h1, if_neg h1]
    by_cases h2 : offB h c (t / 2) = true
    · rw [if_pos h2, if_pos h2]
    · rw [if_neg h2, if_neg h2]
theorem scr_ex {s : Int32} (hs : inB s (-20) 20 = true) : ∃ k, k < 41 ∧ s = nI k - 20 := by
  obtain ⟨h1, h2⟩ := inB_t.mp hs
  have e1 : ¬ s.toInt < -20 := fun z => h1 (Int32.lt_iff_toInt_lt.mpr (by rw [show (-20 : Int32).toInt = -20 from by decide]; exact z))
  have e2 : ¬ 20 < s.toInt := fun z => h2 (Int32.lt_iff_toInt_lt.mpr (by rw [show (20 : Int32).toInt = 20 from by decide]; exact z))
  refine ⟨(s.toInt + 20).toNat, by omega, Int32.toInt_inj.mp ?_⟩
  have := pk_sub_toInt (a := (s.toInt + 20).toNat) (b := 20) (by omega) (by omega)
  rw [show (20 : Int32) = nI 20 from rfl, this]
  omega
theorem scr_tab : ∀ k, k < 41 → (inB (nI k - 20 + 0) (-20) 20 = true) ∧ (inB (nI k - 20 + 1) (-20) 20 = !decide (20 ≤ nI k - 20)) ∧ (inB (nI k - 20 + -1) (-20) 20 = !decide (nI k - 20 ≤ -20)) ∧ nI k - 20 + 0 = nI k - 20 ∧ nI k - 20 - 1 = nI k - 20 + -1 := by decide +kernel
theorem turC_M (hs : inB (h (12 + 8 * c + 3)) (-20) 20 = true) : turC h c = upd h (12 + 8 * c + 3) (if inB (wkS h c) (-20) 20 = true then wkS h c else h (12 + 8 * c + 3)) := by
  obtain ⟨k, hk, e⟩ := scr_ex hs
  obtain ⟨t0, t1, t2, t3, t4⟩ := scr_tab k hk
  unfold turC wkS
  by_cases h1 : rt h c ≤ 0
  · rw [if_pos h1, if_neg (show ¬ ¬ rt h c ≤ 0 from fun z => z h1)]
    by_cases h2 : 0 ≤ rt h c
    · rw [if_pos h2, if_pos h2, e, if_pos t0, t3, ← e, upd_id]
    · rw [if_neg h2, if_neg h2, e, t1]
      by_cases h3 : 20 ≤ nI k - 20
      · rw [if_pos h3, if_neg (by simp [h3]), ← e, upd_id]
      · rw [if_neg h3, if_pos (by simp [h3])]
  · rw [if_neg h1, if_pos (show ¬ rt h c ≤ 0 from h1), e, t2]
    by_cases h4 : nI k - 20 ≤ -20
    · have h2 : 0 ≤ rt h c := by
        rw [Int32.le_iff_toInt_le] at h1 ⊢
        rw [show (0 : Int32).toInt = 0 from by decide] at h1 ⊢
        omega
      rw [if_pos h4, if_pos h2, if_neg (show ¬ (!decide (nI k - 20 ≤ -20)) = true by simp [h4]), ← e, upd_id]
    · rw [if_neg h4, if_pos (by simp [h4]), t4]
theorem workM_eq : workM h c = (let k := if h (12 + 8 * c + 6) = 1 ∧ ¬ jabs (h (12 + 8 * c + 4)) ≤ h 0 / 2 then upd h (12 + 8 * c + 3) (if inB (wkS h c) (-20) 20 = true then wkS h c else h (12 + 8 * c + 3)) else h
    upd (upd (upd (upd k (12 + 8 * c + 6) 1) (12 + 8 * c + 4) 0) (12 + 8 * c + 5) 0) (12 + 8 * c + 7) (h (12 + 8 * c + 7) + 1)) := rfl
theorem winC_M (g : GoO h c) (hs : inB (h (12 + 8 * c + 3)) (-20) 20 = true) : winC h c (h 0) = workM h c := by
  rw [workM_eq]
  have h7 : turC h c (12 + 8 * c + 7) = h (12 + 8 * c + 7) := by rw [turC_M hs, upd_ne (by omega)]
  unfold winC
  rcases g with g | ⟨g, g4⟩
  · rw [if_neg (by rw [g]; decide)]
    by_cases h2 : jabs (h (12 + 8 * c + 4)) ≤ h 0 / 2
    · rw [if_neg (by unfold offB; simp [h2])]
      simp only [g, h2, not_true_eq_false, and_false, if_false]
      rfl
    · rw [if_pos (by unfold offB; simp [h2])]
      simp only [g, h2, not_false_eq_true, and_true, if_true]
      unfold setC
      rw [h7, turC_M hs]
  · rw [if_pos g, if_neg (by rw [g]; simp)]
    rfl
theorem workM_ot {c' w : Nat} (hw : w < 8) (hne : c' ≠ c) : workM h c (12 + 8 * c' + w) = h (12 + 8 * c' + w) := by
  have a : ∀ v, v < 8 → 12 + 8 * c' + w ≠ 12 + 8 * c + v := fun v hv => by omega
  rw [workM_eq]
  dsimp only
  rw [upd_ne (a 7 (by decide)), upd_ne (a 5 (by decide)), upd_ne (a 4 (by decide)), upd_ne (a 6 (by decide))]
  split
  · rw [upd_ne (a 3 (by decide))]
  · rfl
theorem workM_IvC {D : Nat} (v : IvC h D c) : IvC (workM h c) D c := by
  obtain ⟨v0, v1, v3, v5, v6⟩ := v
  rw [workM_eq]
  dsimp only
  refine ⟨?_, ?_, ?_, ⟨0, Nat.zero_le _, ?_⟩, Or.inl ?_⟩
  · rw [upd_ne (by omega), upd_ne (by omega), upd_ne (by omega), upd_ne (by omega)]
    split
    · rw [upd_ne (by omega)]; exact v0
    · exact v0
  · rw [upd_ne (by omega), upd_ne (by omega), upd_ne (by omega), upd_ne (by omega)]
    split
    · rw [upd_ne (by omega)]; exact v1
    · exact v1
  · rw [upd_ne (by omega), upd_ne (by omega), upd_ne (by omega), upd_ne (by omega)]
    split
    · rw [upd_self]
      split
      · next z => exact z
      · exact v3
    · exact v3
  · rw [upd_ne (by omega), upd_self]; rfl
  · rw [upd_ne (by omega), upd_ne (by omega), upd_ne (by omega), upd_self]
end R2
end
section
/-! the relation, third: counts; what a change answers, and that it keeps the relation -/
section R3
variable {n c : Nat} {h f : Nat → Int32}
theorem stillN_e : ∀ k, (∀ c, c < k → GoO h c) → stillN h k = stC h k := by
  intro k
  induction k with
  | zero => intro _; rfl
  | succ k ih =>
    intro g
    unfold stillN stC
    rw [ih (fun c hc => g c (by omega))]
    rcases g k (by omega) with e | ⟨e, _⟩
    · rw [if_pos e, if_neg (by rw [e]; decide), Int32.or_zero]
    · rw [if_neg (show ¬ h (12 + 8 * k + 6) = 1 by rw [e]; decide), if_pos e]
/-- the set of clocks that stand still, as bits of a number -/
def stB (h : Nat → Int32) : Nat → Nat
  | 0 => 0
  | k + 1 => if h (12 + 8 * k + 6) = 0 then stB h k + 2 ^ k else stB h k
theorem stB_lt (h : Nat → Int32) : ∀ k, stB h k < 2 ^ k := by
  intro k
  induction k with
  | zero => exact Nat.one_pos
  | succ k ih => unfold stB; rw [Nat.pow_succ]; split <;> omega
theorem or_pow {a k : Nat} (ha : a < 2 ^ k) : a ||| 2 ^ k = a + 2 ^ k := by
  have := Nat.two_pow_add_eq_or_of_lt ha 1
  rw [Nat.mul_one] at this
  rw [Nat.or_comm, Nat.add_comm, this]
theorem sh_tab : ∀ k, k < 16 → (1 : Int32) <<< (nI k &&& 31) = nI (2 ^ k) := by decide +kernel
theorem nI_or {a b : Nat} (ha : a < 2 ^ 31) (hb : b < 2 ^ 31) : nI a ||| nI b = nI (a ||| b) := by
  unfold nI
  apply Int32.toBitVec_inj.mp
  rw [Int32.toBitVec_or]
  apply BitVec.eq_of_toNat_eq
  have hab : a ||| b < 2 ^ 31 := Nat.or_lt_two_pow ha hb
  rw [BitVec.toNat_or]
  have e : ∀ x : Nat, x < 2 ^ 31 → (Int32.ofNat x).toBitVec.toNat = x := fun x hx => by
    have := pk_tn (n := x) (by omega)
    exact this
  rw [e a ha, e b hb, e _ hab]
theorem stC_B : ∀ k, k ≤ 16 → stC h k = nI (stB h k) := by
  intro k
  induction k with
  | zero => intro _; rfl
  | succ k ih =>
    intro hk
    have hl := stB_lt h k
    have h16 : 2 ^ k ≤ 2 ^ 15 := Nat.pow_le_pow_right (by decide) (by omega)
    unfold stC stB
    rw [ih (by omega)]
    split
    · rw [sh_tab k (by omega), nI_or (by omega) (by omega), or_pow hl]
    · rfl
/-- how many bits there are -/
def popN (a : Nat) : Nat → Nat
  | 0 => 0
  | k + 1 => popN a k + a / 2 ^ k % 2
theorem popN_hi : ∀ k a m, k ≤ m → popN (a + 2 ^ m) k = popN a k := by
  intro k
  induction k with
  | zero => intro a m _; rfl
  | succ k ih =>
    intro a m hk
    unfold popN
    rw [ih a m (by omega)]
    obtain ⟨e, rfl⟩ : ∃ e, m = k + 1 + e := ⟨m - (k + 1), by omega⟩
    have h1 : (a + 2 ^ (k + 1 + e)) / 2 ^ k = a / 2 ^ k + 2 * 2 ^ e := by
      rw [show 2 ^ (k + 1 + e) = 2 ^ k * (2 * 2 ^ e) by rw [Nat.pow_add, Nat.pow_succ, Nat.mul_assoc]]
      exact Nat.add_mul_div_left _ _ (Nat.two_pow_pos k)
    rw [h1, Nat.add_mul_mod_self_left]
theorem popN_0 : ∀ k a, a < 2 ^ k → ∀ m, k ≤ m → popN a m = popN a k := by
  intro k a ha m hk
  induction m with
  | zero => rw [show k = 0 by omega]
  | succ m ih =>
    by_cases e : k = m + 1
    · rw [e]
    · show popN a m + a / 2 ^ m % 2 = _
      rw [ih (by omega), Nat.div_eq_of_lt (Nat.lt_of_lt_of_le ha (Nat.pow_le_pow_right (by decide) (by omega)))]; rfl
theorem popN_st : ∀ k, popN (stB h k) k = k - goN h k := by
  intro k
  induction k with
  | zero => rfl
  | succ k ih =>
    have hl := stB_lt h k
    have hg := goN_le h k
    unfold stB goN popN
    by_cases e : h (12 + 8 * k + 6) = 0
    · rw [if_pos e, if_pos e, popN_hi k _ k (Nat.le_refl _), ih, Nat.add_div_right _ (Nat.two_pow_pos k), Nat.div_eq_of_lt hl]
      omega
    · rw [if_neg e, if_neg e, ih, Nat.div_eq_of_lt hl]
      omega
theorem bit_tab {a k : Nat} (ha : a < 2 ^ 16) (hk : k < 16) : nI a >>> (nI k &&& 31) &&& 1 = nI (a / 2 ^ k % 2) := by
  rw [pk_shrN (n := a) (by omega) (nI k &&& 31) k ((show ∀ k, k < 16 → ((nI k &&& 31).toBitVec.smod 32).toNat = k from by decide +kernel) k hk)]
  have := pk_andN (n := a / 2 ^ k) (Nat.lt_of_le_of_lt (Nat.div_le_self _ _) (by omega)) (m := 1) 1 (by decide)
  exact this
theorem manyN_pop {a : Nat} (ha : a < 2 ^ 16) : ∀ k, k ≤ 16 → manyN (nI a) k = nI (popN a k) := by
  intro k
  induction k with
  | zero => intro _; rfl
  | succ k ih =>
    intro hk
    unfold manyN popN
    rw [ih (by omega), bit_tab ha (by omega), nI_add]
theorem stV_go (W : Wk h) (g : ∀ c, c < cn h → GoO h c) : stV h = nI (cn h - goN h (cn h)) := by
  have h16 := W.2.1
  have hl := stB_lt h (cn h)
  have hl16 : stB h (cn h) < 2 ^ 16 := Nat.lt_of_lt_of_le hl (Nat.pow_le_pow_right (by decide) h16)
  unfold stV
  rw [stillN_e _ g, stC_B _ h16, manyN_pop hl16 16 (Nat.le_refl _), popN_0 (cn h) _ hl 16 h16, popN_st]
theorem goN_Mx : ∀ k, k ≤ n → goN (Mx n h f) k = goN h k := by
  intro k
  induction k with
  | zero => intro _; rfl
  | succ k ih =>
    intro hk
    unfold goN
    rw [ih (by omega), Mx_in (by omega)]
theorem goN_congr {h' : Nat → Int32} : ∀ k, (∀ c, c < k → h' (12 + 8 * c + 6) = h (12 + 8 * c + 6)) → goN h' k = goN h k := by
  intro k
  induction k with
  | zero => intro _; rfl
  | succ k ih =>
    intro e
    unfold goN
    rw [ih (fun c hc => e c (by omega)), e k (by omega)]
/-! the night of the change -/
theorem chgA_ot (a : Int32) : ∀ k {c w : Nat}, w < 8 → w ≠ 4 → chgA h a k (12 + 8 * c + w) = h (12 + 8 * c + w) := by
  intro k
  induction k with
  | zero => intro c w _ _; rfl
  | succ k ih =>
    intro c w hw h4
    unfold chgA chg1
    rw [upd_ne (by omega)]; exact ih hw h4
theorem chgA_o4 (a : Int32) : ∀ k {c : Nat}, k ≤ c → chgA h a k (12 + 8 * c + 4) = h (12 + 8 * c + 4) := by
  intro k
  induction k with
  | zero => intro c _; rfl
  | succ k ih =>
    intro c hc
    unfold chgA chg1
    rw [upd_ne (by omega)]; exact ih (by omega)
theorem chC_Mx (a : Int32) : ∀ k, k ≤ n → chC (Mx n h f) (if a = 1 then -3600 else 3600) k = Mx n (chgA h a k) f := by
  intro k
  induction k with
  | zero => intro _; rfl
  | succ k ih =>
    intro hk
    unfold chC chgA chg1
    rw [ih (by omega), Mx_in (by omega), Mx_in (by omega)]
    by_cases e : chgA h a k (12 + 8 * k + 6) = 0
    · rw [if_pos e, if_pos e, Int32.add_zero, upd_id]
    · rw [if_neg e, if_neg e, Mx_upd (by omega)]
theorem chgA_st (a : Int32) : ∀ k, (∀ c, c < k → GoO h c) → ∀ c, c < k → GoO (chgA h a k) c := by
  intro k g c hc
  unfold GoO
  rw [chgA_ot a k (by decide) (by decide)]
  rcases g c hc with e | ⟨e, e4⟩
  · exact Or.inl e
  · refine Or.inr ⟨e, ?_⟩
    clear g hc
    induction k with
    | zero => exact e4
    | succ k ih =>
      unfold chgA chg1
      by_cases z : c = k
      · subst z
        rw [upd_self, show chgA h a c (12 + 8 * c + 6) = h (12 + 8 * c + 6) from chgA_ot a c (by decide) (by decide), if_pos e, Int32.add_zero]; exact ih
      · rw [upd_ne (by omega)]; exact ih
theorem chgA_Iv (a : Int32) (v : Iv h) : Iv (chgA h a (cn h)) := by
  obtain ⟨D, hD, h4, W, S, vc⟩ := v
  have lo := fun j (hj : j < 12) => chgA_lo h a (cn h) hj
  refine ⟨D, hD, by rw [lo 4 (by decide)]; exact h4, W.low (lo 5 (by decide)) (lo 6 (by decide)), S.congr W.2.2.2 lo, fun c hc => ?_⟩
  rw [cn_low (lo 5 (by decide))] at hc
  obtain ⟨v0, v1, v3, v5, v6⟩ := vc c hc
  have o := fun (w : Nat) (hw : w < 8) (h4 : w ≠ 4) => chgA_ot (h := h) a (cn h) (c := c) hw h4
  refine ⟨by rw [o 0 (by decide) (by decide)]; exact v0, by rw [o 1 (by decide) (by decide)]; exact v1, by rw [o 3 (by decide) (by decide)]; exact v3, by rw [o 5 (by decide) (by decide)]; exact v5, ?_⟩
  exact chgA_st a (cn h) (fun c hc => (vc c hc).go) c hc
end R3
end
section
/-! the relation, fourth: a change on either side -/
def Cg (f0 : Nat → Int32) (Rc : Int32) (F : Nat → Int32) (flt v : Int32) (f' : Nat → Int32) : Prop := (flt = 0 ∧ Rc = v ∧ 0 ≤ v ∧ Iv f' ∧ F = Mx (cn f') f' f0) ∨ (flt < 0 ∧ Rc = flt ∧ F = f0)
section R4
variable {f h : Nat → Int32}
theorem upd_Ro (r : Ro f h) {j : Nat} {x : Int32} (hj : j < 12 + 8 * cn h) : upd f j x = Mx (cn h) (upd h j x) f := by
  conv => lhs; rw [r.mx]
  exact Mx_upd hj
theorem Ro_lad (r : Ro f h) {c : Nat} (hc : c < cn h) : ladF f c = ladF h c := by rw [r.mx]; exact ladF_Mx hc r.1.W.2.2.2
theorem Ro_can (r : Ro f h) {c : Nat} (hc : c < cn h) : canW f c = canW h c := by rw [r.mx]; exact canW_Mx hc r.1.W.2.2.2
theorem Ro_isC (r : Ro f h) (x : Int32) : isCb f x = isCb h x := by rw [r.mx]; exact isCb_Mx x
theorem Ro_ln (r : Ro f h) : ln f = ln h := ln_low (r.2 6 (by omega))
theorem Iv_set {i : Nat} {x : Int32} (v : Iv h) (hi : i < 4) (hx : ∃ a, 1 ≤ a ∧ a ≤ (if i = 0 then 999 else 30) ∧ x = nI a) : Iv (upd h i x) := by
  obtain ⟨D, hD, h4, W, ⟨s0, s1, s2, s3, s4⟩, vc⟩ := v
  have e5 : upd h i x 5 = h 5 := upd_ne (by omega)
  have e6 : upd h i x 6 = h 6 := upd_ne (by omega)
  have l4 := W.2.2.2
  obtain ⟨a, a1, a2, rfl⟩ := hx
  refine ⟨D, hD, by rw [upd_ne (by omega)]; exact h4, W.low e5 e6, ⟨?_, ?_, ?_, ?_, fun j hj => ?_⟩, fun c hc => ?_⟩
  · by_cases z : i = 0
    · subst z; exact ⟨a, a1, a2, upd_self⟩
    · rw [upd_ne (by omega)]; exact s0
  · by_cases z : i = 1
    · subst z; exact ⟨a, a1, a2, upd_self⟩
    · rw [upd_ne (by omega)]; exact s1
  · by_cases z : i = 2
    · subst z; exact ⟨a, a1, a2, upd_self⟩
    · rw [upd_ne (by omega)]; exact s2
  · by_cases z : i = 3
    · subst z; exact ⟨a, a1, a2, upd_self⟩
    · rw [upd_ne (by omega)]; exact s3
  · rw [ln_low e6] at hj
    rw [upd_ne (by omega)]; exact s4 j hj
  · rw [cn_low e5] at hc
    exact (vc c hc).congr (fun w hw => upd_ne (by omega))
theorem Iv_get {i : Nat} (v : Iv h) (hi : i < 4) : ∃ a, a ≤ 999 ∧ h i = nI a := by
  obtain ⟨⟨a0, _, b0, c0⟩, ⟨a1, _, b1, c1⟩, ⟨a2, _, b2, c2⟩, ⟨a3, _, b3, c3⟩, _⟩ := v.S
  rcases (show i = 0 ∨ i = 1 ∨ i = 2 ∨ i = 3 by omega) with rfl | rfl | rfl | rfl
  · exact ⟨a0, b0, c0⟩
  · exact ⟨a1, by omega, c1⟩
  · exact ⟨a2, by omega, c2⟩
  · exact ⟨a3, by omega, c3⟩
theorem Cg_set (r : Ro f h) (x v : Int32) : Cg f (rsR f x v) (rsF f x v) (setE x v) (h (ix x)) (upd h (ix x) v) := by
  unfold rsR rsF setE
  by_cases hx : inB x 0 3 = true
  · rw [if_pos hx]
    obtain ⟨i, hi, rfl⟩ := inB_nI (n := 3) (by decide) hx
    have e : ix (nI i) = i := ix_nI (by omega)
    have h4 : ¬ (4 : Int32) ≤ nI i := fun z => by have := (nI_leI (a := 4) (b := i) (by decide) (by omega)).mp z; omega
    have hz : (nI i = 0) = (i = 0) := propext ⟨fun z => (nI_eq (a := i) (b := 0) (by omega) (by decide)).mp z, fun z => by rw [z]; rfl⟩
    rw [if_neg (nI_pos (by omega)), if_neg (nI_pos (by omega)), if_neg h4, if_neg h4, e]
    simp only [hz]
    by_cases hv : inB v 1 (if i = 0 then 999 else 30) = true
    · rw [if_pos hv, if_pos hv, if_pos hv]
      have hv2 : ∃ a, 1 ≤ a ∧ a ≤ (if i = 0 then 999 else 30) ∧ v = nI a := by
        by_cases z : i = 0
        · rw [if_pos z] at hv ⊢; exact inB1_nI (n := 999) (by decide) hv
        · rw [if_neg z] at hv ⊢; exact inB1_nI (n := 30) (by decide) hv
      obtain ⟨a, ha, ea⟩ := Iv_get r.1 (show i < 4 by omega)
      refine Or.inl ⟨rfl, r.2 i (by omega), by rw [ea]; exact nI_pos' (by omega), Iv_set r.1 (by omega) hv2, ?_⟩
      rw [cn_low (f := h) (h := upd h i v) (upd_ne (by omega))]
      exact upd_Ro r (by omega)
    · rw [if_neg hv, if_neg hv, if_neg hv]
      exact Or.inr ⟨by decide, rfl, rfl⟩
  · rw [if_neg hx]
    have : x < 0 ∨ 4 ≤ x := by
      by_cases z : x < 0
      · exact Or.inl z
      · refine Or.inr (Int32.not_lt.mp fun z4 => hx (inB_t.mpr ⟨z, fun z3 => ?_⟩))
        rw [Int32.lt_iff_toInt_lt] at z3 z4
        rw [show (4 : Int32).toInt = 4 from by decide] at z4
        rw [show (3 : Int32).toInt = 3 from by decide] at z3
        omega
    rcases this with z | z
    · rw [if_pos z, if_pos z]; exact Or.inr ⟨by decide, rfl, rfl⟩
    · by_cases z0 : x < 0
      · rw [if_pos z0, if_pos z0]; exact Or.inr ⟨by decide, rfl, rfl⟩
      · rw [if_neg z0, if_neg z0, if_pos z, if_pos z]; exact Or.inr ⟨by decide, rfl, rfl⟩
/-! a clock is hung -/
theorem newC_lo {n : Nat} {H U D : Int32} {j : Nat} (hj : j < 12 + 8 * n) (h5 : j ≠ 5) : newC h n H U D j = h j := by
  unfold newC
  rw [upd_ne h5, upd_ne (by omega), upd_ne (by omega), upd_ne (by omega), upd_ne (by omega)]
  exact if_neg (by omega)
theorem newC_5 {n : Nat} {H U D : Int32} : newC h n H U D 5 = nI (n + 1) := by unfold newC; exact upd_self
theorem newC_w {n : Nat} {H U D : Int32} {w : Nat} (hw : w < 8) : newC h n H U D (12 + 8 * n + w) = begC f n H U D (12 + 8 * n + w) := by
  have h5 : 12 + 8 * n + w ≠ 5 := by omega
  unfold newC begC
  rw [upd_ne h5]
  rcases (show w = 0 ∨ w = 1 ∨ w = 2 ∨ w = 3 ∨ w = 4 ∨ w = 5 ∨ w = 6 ∨ w = 7 by omega) with rfl | rfl | rfl | rfl | rfl | rfl | rfl | rfl <;> simp [upd]
theorem begC_out {n : Nat} {H U D : Int32} {j : Nat} (hj : ¬ (12 + 8 * n ≤ j ∧ j < 12 + 8 * n + 8)) : begC f n H U D j = f j := by
  unfold begC
  iterate 8 rw [upd_ne (by omega)]
theorem hang_Mx {n : Nat} {H U D : Int32} (e : ∀ j, j < 12 + 8 * n → f j = h j) : upd (begC f n H U D) 5 (nI (n + 1)) = Mx (n + 1) (newC h n H U D) f := by
  funext j
  by_cases h5 : j = 5
  · subst h5; rw [upd_self, Mx_in (by omega), newC_5]
  rw [upd_ne h5]
  by_cases h1 : j < 12 + 8 * n
  · rw [Mx_in (by omega), newC_lo h1 h5, begC_out (by omega), e j h1]
  by_cases h2 : j < 12 + 8 * n + 8
  · obtain ⟨w, hw, rfl⟩ : ∃ w, w < 8 ∧ j = 12 + 8 * n + w := ⟨j - (12 + 8 * n), by omega, by omega⟩
    rw [Mx_in (by omega), newC_w hw]
  · rw [Mx_out (by omega), begC_out (by omega)]
theorem newC_Iv {H U D : Int32} (v : Iv h) (hn : cn h < 16) (hH : inB H 0 99 = true) (hU : inB U 0 30 = true) : Iv (newC h (cn h) H U D) ∧ cn (newC h (cn h) H U D) = cn h + 1 := by
  obtain ⟨T, hD, h4, W, S, vc⟩ := v
  have c5 : cn (newC h (cn h) H U D) = cn h + 1 := by
    show (newC h (cn h) H U D 5).toNatClampNeg = _
    rw [newC_5]; exact nI_clamp (by omega)
  have e6 : newC h (cn h) H U D 6 = h 6 := newC_lo (by omega) (by decide)
  have l6 := ln_low e6
  refine ⟨⟨T, hD, by rw [newC_lo (by omega) (by decide)]; exact h4, ⟨by rw [newC_5, c5], by rw [c5]; omega, by rw [e6, l6]; exact W.2.2.1, by rw [l6]; exact W.2.2.2⟩, ?_, fun c hc => ?_⟩, c5⟩
  · unfold IvS
    rw [l6, newC_lo (by omega) (by decide), newC_lo (by omega) (by decide), newC_lo (by omega) (by decide), newC_lo (by omega) (by decide)]
    refine ⟨S.1, S.2.1, S.2.2.1, S.2.2.2.1, fun j hj => ?_⟩
    have := W.2.2.2
    rw [newC_lo (by omega) (by omega)]; exact S.2.2.2.2 j hj
  · rw [c5] at hc
    by_cases z : c < cn h
    · exact (vc c z).congr (fun w hw => newC_lo (by omega) (by omega))
    · rw [show c = cn h by omega]
      have g := fun (w : Nat) (hw : w < 8) => newC_w (f := h) (h := h) (n := cn h) (H := H) (U := U) (D := D) hw
      unfold IvC
      rw [g 0 (by decide), g 1 (by decide), g 3 (by decide), g 5 (by decide), g 6 (by decide)]
      obtain ⟨a, ha, ea⟩ := inB_nI (n := 99) (by decide) hH
      obtain ⟨b, hb, eb⟩ := inB_nI (n := 30) (by decide) hU
      refine ⟨⟨a, ha, ?_⟩, ⟨b, hb, ?_⟩, ?_, ⟨0, Nat.zero_le _, ?_⟩, Or.inl ?_⟩
      · rw [← ea]; simp [begC, upd]
      · rw [← eb]; simp [begC, upd]
      · simp [begC, upd, inB]
      · simp [begC, upd]; rfl
      · simp [begC, upd]
theorem Cg_hang (r : Ro f h) (H U D : Int32) : Cg f (acR f H U D) (acF f H U D) (hangR h H U D) (nI (cn h)) (newC h (cn h) H U D) := by
  have h16 := r.1.W.2.1
  unfold acR acF hangR
  rw [r.ec]
  by_cases h1 : inB H 0 99 = true
  · rw [if_pos h1, if_pos h1, if_pos h1]
    by_cases h2 : inB U 0 30 = true
    · rw [if_pos h2, if_pos h2, if_pos h2]
      by_cases h3 : inB D (-99) 99 = true
      · rw [if_pos h3, if_pos h3, if_pos h3]
        by_cases h4 : cn h < 16
        · rw [if_pos h4, if_pos h4, if_neg (by omega)]
          obtain ⟨v, c5⟩ := newC_Iv (D := D) r.1 h4 h1 h2
          refine Or.inl ⟨rfl, rfl, nI_pos' (by omega), v, ?_⟩
          rw [c5]; exact hang_Mx r.2
        · rw [if_neg h4, if_neg h4, if_pos (by omega)]; exact Or.inr ⟨by decide, rfl, rfl⟩
      · rw [if_neg h3, if_neg h3, if_neg h3]; exact Or.inr ⟨by decide, rfl, rfl⟩
    · rw [if_neg h2, if_neg h2, if_neg h2]; exact Or.inr ⟨by decide, rfl, rfl⟩
  · rw [if_neg h1, if_neg h1, if_neg h1]; exact Or.inr ⟨by decide, rfl, rfl⟩
/-! a ladder -/
theorem lad_Iv {u : Int32} (v : Iv h) (hl : ln h < 4) (hu : inB u 1 30 = true) : Iv (upd (upd h (8 + ln h) u) 6 (nI (ln h + 1))) ∧ cn (upd (upd h (8 + ln h) u) 6 (nI (ln h + 1))) = cn h := by
  obtain ⟨T, hD, h4, W, S, vc⟩ := v
  have o : ∀ j, j ≠ 6 → j ≠ 8 + ln h → upd (upd h (8 + ln h) u) 6 (nI (ln h + 1)) j = h j := fun j a b => by rw [upd_ne a, upd_ne b]
  have c5 := cn_low (o 5 (by decide) (by omega))
  have e6 : upd (upd h (8 + ln h) u) 6 (nI (ln h + 1)) 6 = nI (ln h + 1) := upd_self
  have l6 : ln (upd (upd h (8 + ln h) u) 6 (nI (ln h + 1))) = ln h + 1 := by
    show (upd (upd h (8 + ln h) u) 6 (nI (ln h + 1)) 6).toNatClampNeg = _
    rw [e6]; exact nI_clamp (by omega)
  refine ⟨⟨T, hD, by rw [o 4 (by decide) (by omega)]; exact h4, ⟨by rw [o 5 (by decide) (by omega), c5]; exact W.1, by rw [c5]; exact W.2.1, by rw [e6, l6], by rw [l6]; omega⟩, ?_, fun c hc => ?_⟩, c5⟩
  · unfold IvS
    rw [l6, o 0 (by decide) (by omega), o 1 (by decide) (by omega), o 2 (by decide) (by omega), o 3 (by decide) (by omega)]
    refine ⟨S.1, S.2.1, S.2.2.1, S.2.2.2.1, fun j hj => ?_⟩
    by_cases z : j = ln h
    · subst z
      rw [upd_ne (by omega), upd_self]
      exact inB1_nI (n := 30) (by decide) hu
    · rw [o (8 + j) (by omega) (by omega)]; exact S.2.2.2.2 j (by omega)
  · rw [c5] at hc
    exact (vc c hc).congr (fun w hw => o _ (by omega) (by omega))
theorem Cg_lad (r : Ro f h) (u : Int32) : Cg f (alR f u) (alF f u) (lddR h u) (nI (ln h)) (upd (upd h (8 + ln h) u) 6 (nI (ln h + 1))) := by
  have h4 := r.1.W.2.2.2
  unfold alR alF lddR
  rw [Ro_ln r]
  by_cases h1 : inB u 1 30 = true
  · rw [if_pos h1, if_pos h1, if_pos h1]
    by_cases h2 : ln h < 4
    · rw [if_pos h2, if_pos h2, if_neg (by omega)]
      obtain ⟨v, c5⟩ := lad_Iv r.1 h2 h1
      refine Or.inl ⟨rfl, rfl, nI_pos' (by omega), v, ?_⟩
      rw [c5, upd_Ro r (by omega), Mx_upd (by omega)]
    · rw [if_neg h2, if_neg h2, if_pos (by omega)]; exact Or.inr ⟨by decide, rfl, rfl⟩
  · rw [if_neg h1, if_neg h1, if_neg h1]; exact Or.inr ⟨by decide, rfl, rfl⟩
/-! a screw -/
theorem scr_Iv {i : Nat} {x : Int32} (v : Iv h) (hi : i < cn h) (hx : inB x (-20) 20 = true) : Iv (upd h (12 + 8 * i + 3) x) := by
  obtain ⟨T, hD, h4, W, S, vc⟩ := v
  have lo : ∀ j, j < 12 → upd h (12 + 8 * i + 3) x j = h j := fun j hj => upd_ne (by omega)
  refine ⟨T, hD, by rw [lo 4 (by decide)]; exact h4, W.low (lo 5 (by decide)) (lo 6 (by decide)), S.congr W.2.2.2 lo, fun c hc => ?_⟩
  rw [cn_low (lo 5 (by decide))] at hc
  by_cases z : c = i
  · subst z
    obtain ⟨v0, v1, v3, v5, v6⟩ := vc c hc
    unfold IvC
    rw [upd_ne (by omega), upd_ne (by omega), upd_self, upd_ne (by omega), upd_ne (by omega), upd_ne (by omega)]
    exact ⟨v0, v1, hx, v5, v6⟩
  · exact (vc c hc).congr (fun w hw => upd_ne (by omega))
theorem Cg_scr (r : Ro f h) (x t : Int32) : Cg f (tsR f x t) (tsF f x t) (scE h x t) (h (12 + 8 * ix x + 3) + t + 20) (upd h (12 + 8 * ix x + 3) (h (12 + 8 * ix x + 3) + t)) := by
  unfold tsR tsF scE
  rw [Ro_isC r]
  by_cases h1 : isCb h x = true
  · obtain ⟨i, hi, rfl⟩ := (isC_iff r.1.W x).mp h1
    have h16 := r.1.W.2.1
    rw [if_pos h1, if_pos h1, if_pos h1, ix_nI (by omega), r.2 (12 + 8 * i + 3) (by omega)]
    by_cases h2 : inB t (-20) 20 = true
    · rw [if_pos h2, if_pos h2, if_pos h2]
      by_cases h3 : inB (h (12 + 8 * i + 3) + t) (-20) 20 = true
      · rw [if_pos h3, if_pos h3, if_pos h3]
        refine Or.inl ⟨rfl, rfl, ?_, scr_Iv r.1 hi h3, ?_⟩
        · obtain ⟨k, hk, e⟩ := scr_ex h3
          rw [e, Int32.sub_add_cancel]; exact nI_pos' (by omega)
        · rw [cn_low (upd_ne (by omega))]; exact upd_Ro r (by omega)
      · rw [if_neg h3, if_neg h3, if_neg h3]; exact Or.inr ⟨by decide, rfl, rfl⟩
    · rw [if_neg h2, if_neg h2, if_neg h2]; exact Or.inr ⟨by decide, rfl, rfl⟩
  · rw [if_neg h1, if_neg h1, if_neg h1]; exact Or.inr ⟨by decide, rfl, rfl⟩
/-! days -/
theorem Cg_pass (r : Ro f h) (m : Int32) : Cg f (psR f m) (psF f m) (passR h m) (stV (pasF h (ix m))) (pasF h (ix m)) := by
  obtain ⟨T, hD, h4, W, S, vc⟩ := r.1
  have h16 := W.2.1
  unfold psR psF passR
  rw [r.ec, r.2 4 (by omega)]
  by_cases h1 : inB m 1 99 = true
  · rw [if_pos h1, if_pos h1, if_pos h1]
    obtain ⟨i, hi1, hi2, rfl⟩ := inB1_nI (n := 99) (by decide) h1
    by_cases h2 : h 4 + nI i ≤ 9999
    · rw [if_pos h2, if_pos h2, if_pos h2, ix_nI (by omega)]
      have h2' : T + i ≤ 9999 := by
        rw [h4, nI_add] at h2
        exact (nI_leI (a := T + i) (b := 9999) (by omega) (by decide)).mp h2
      obtain ⟨d1, d2⟩ := dcD_Mx (f := f) W vc i
      have lo := fun j (hj : j < 12) => passD_lo h i hj
      have lo2 : ∀ j, j < 12 → j ≠ 4 → pasF h i j = h j := fun j hj hne => by unfold pasF; rw [upd_ne hne]; exact lo j hj
      have c5 := cn_low (lo2 5 (by decide) (by decide))
      have ic : ∀ c, c < cn h → IvC (pasF h i) (T + i) c := fun c hc => (d2 c hc).congr (fun w hw => by unfold pasF; exact upd_ne (by omega))
      have v : Iv (pasF h i) := by
        refine ⟨T + i, h2', ?_, W.low (lo2 5 (by decide) (by decide)) (lo2 6 (by decide) (by decide)), ?_, fun c hc => ic c (by rw [c5] at hc; exact hc)⟩
        · unfold pasF; rw [upd_self, h4, nI_add]
        · unfold IvS
          rw [ln_low (lo2 6 (by decide) (by decide)), lo2 0 (by decide) (by decide), lo2 1 (by decide) (by decide), lo2 2 (by decide) (by decide), lo2 3 (by decide) (by decide)]
          refine ⟨S.1, S.2.1, S.2.2.1, S.2.2.2.1, fun j hj => ?_⟩
          have := W.2.2.2
          rw [lo2 (8 + j) (by omega) (by omega)]; exact S.2.2.2.2 j hj
      have e1 : psW f (nI i) = Mx (cn h) (pasF h i) f := by
        unfold psW pasF
        rw [r.ec, r.2 4 (by omega), r.2 1 (by omega), ix_nI (by omega)]
        conv => lhs; rw [r.mx]
        rw [d1, Mx_upd (by omega)]
      have g : ∀ c, c < cn (pasF h i) → GoO (pasF h i) c := fun c hc => (ic c (by rw [c5] at hc; exact hc)).go
      have hs := stV_go v.W g
      refine Or.inl ⟨rfl, ?_, ?_, v, by rw [c5]; exact e1⟩
      · rw [e1, goN_Mx _ (Nat.le_refl _), hs, c5]
      · rw [hs, c5]; exact nI_pos' (by omega)
    · rw [if_neg h2, if_neg h2, if_neg h2]; exact Or.inr ⟨by decide, rfl, rfl⟩
  · rw [if_neg h1, if_neg h1, if_neg h1]; exact Or.inr ⟨by decide, rfl, rfl⟩
/-! the change -/
theorem Cg_chg (r : Ro f h) (x : Int32) : Cg f (ccR f x) (ccF f x) (chE x) (nI (cn h) - stV (chgA h x (cn h))) (chgA h x (cn h)) := by
  obtain ⟨T, hD, h4, W, S, vc⟩ := r.1
  have h16 := W.2.1
  have v := chgA_Iv x r.1
  have c5 : cn (chgA h x (cn h)) = cn h := cn_low (chgA_lo h x (cn h) (by decide))
  have hs := stV_go v.W (by rw [c5]; exact chgA_st x (cn h) (fun c hc => (vc c hc).go))
  rw [c5] at hs
  have hg := goN_le (chgA h x (cn h)) (cn h)
  have e : nI (cn h) - stV (chgA h x (cn h)) = nI (goN (chgA h x (cn h)) (cn h)) := by
    rw [hs, pk_sub (by omega), show cn h - (cn h - goN (chgA h x (cn h)) (cn h)) = goN (chgA h x (cn h)) (cn h) by omega]
  have key := chC_Mx (n := cn h) (h := h) (f := f) x (cn h) (Nat.le_refl _)
  rw [← r.mx] at key
  rw [e]
  unfold ccR ccF chE
  rw [r.ec]
  by_cases h0 : x = 0
  · subst h0
    rw [if_neg (by decide)] at key
    rw [if_pos rfl, if_pos rfl, if_pos (by decide), key]
    exact Or.inl ⟨rfl, by rw [goN_Mx _ (Nat.le_refl _)], nI_pos' (by omega), v, by rw [c5]⟩
  · rw [if_neg h0, if_neg h0]
    by_cases h1 : x = 1
    · subst h1
      rw [if_pos rfl] at key
      rw [if_pos rfl, if_pos rfl, if_pos (by decide), key]
      exact Or.inl ⟨rfl, by rw [goN_Mx _ (Nat.le_refl _)], nI_pos' (by omega), v, by rw [c5]⟩
    · rw [if_neg h1, if_neg h1, if_neg (fun z => by
        obtain ⟨i, hi, ei⟩ := inB_nI (n := 1) (by decide) z
        rcases (show i = 0 ∨ i = 1 by omega) with rfl | rfl
        · exact h0 ei
        · exact h1 ei)]
      exact Or.inr ⟨by decide, rfl, rfl⟩
end R4
end
section
/-! the relation, fifth: beats -/
section R5
variable {f h : Nat → Int32}
theorem gdN_at {w : Nat → Int32} {L k : Nat} (W : Wk h) (g : gdN h w L) (hk : k < L) : ∃ i, i < cn h ∧ w k = nI i ∧ ix (w k) = i := by
  obtain ⟨i, hi, e⟩ := (isC_iff W _).mp (g k hk)
  have := W.2.1
  exact ⟨i, hi, e, by rw [e]; exact ix_nI (by omega)⟩
theorem gdN_lt {w : Nat → Int32} {L k : Nat} (g : gdN h w L) (hk : k ≤ L) : gdN h w k := fun i hi => g i (by omega)
theorem goF_s (w : Nat → Int32) (k : Nat) : goF h w (k + 1) = if canW (goF h w k) (ix (w k)) = true then workM (goF h w k) (ix (w k)) else goF h w k := rfl
theorem wbN_Mx {D : Nat} {w : Nat → Int32} (W : Wk h) (v : ∀ c, c < cn h → IvC h D c) (h0 : f 0 = h 0) : ∀ k, gdN h w k → (wbN (Mx (cn h) h f) w k = Mx (cn h) (goF h w k) f) ∧ ∀ c, c < cn h → IvC (goF h w k) D c := by
  intro k
  induction k with
  | zero => intro _; exact ⟨rfl, v⟩
  | succ k ih =>
    intro g
    obtain ⟨i1, i2⟩ := ih (gdN_lt g (by omega))
    obtain ⟨i, hi, e, ei⟩ := gdN_at W g (show k < k + 1 by omega)
    have lo : ∀ j, j < 12 → goF h w k j = h j := fun j hj => goF_lo h w k hj
    have l4 : ln (goF h w k) ≤ 4 := by rw [ln_low (lo 6 (by decide))]; exact W.2.2.2
    unfold wbN
    rw [goF_s, i1, ei, canW_Mx hi l4, Mx_in (show 0 < 12 + 8 * cn h by omega)]
    by_cases z : canW (goF h w k) i = true
    · rw [if_pos z, if_pos z]
      refine ⟨?_, fun c hc => ?_⟩
      · rw [winC_Mx hi, ← lo 0 (by decide), winC_M (i2 i hi).go (i2 i hi).2.2.1]
      · by_cases zc : c = i
        · subst zc; exact workM_IvC (i2 c hc)
        · exact (i2 c hc).congr (fun w hw => workM_ot hw zc)
    · rw [if_neg z, if_neg z]; exact ⟨rfl, i2⟩
theorem miS_s (w : Nat → Int32) (k : Nat) : miS h w (k + 1) = (if canW h (ix (w k)) = true then ((miS h w k).1 + jabs ((miS h w k).2.1 - h (12 + 8 * ix (w k) + 0)) * h 2 + h 3 + (if o2i (ladF h (ix (w k))) = -6 ∨ o2i (ladF h (ix (w k))) = (miS h w k).2.2 then 0 else 2 * (jabs (h (12 + 8 * ix (w k) + 0) - 0) * h 2)), h (12 + 8 * ix (w k) + 0), if o2i (ladF h (ix (w k))) = -6 then (miS h w k).2.2 else o2i (ladF h (ix (w k)))) else ((miS h w k).1 + jabs ((miS h w k).2.1 - h (12 + 8 * ix (w k) + 0)) * h 2, h (12 + 8 * ix (w k) + 0), (miS h w k).2.2)) := rfl
theorem jabs_d {a b : Nat} (ha : a < 2 ^ 30) (hb : b < 2 ^ 30) : jabs (nI a - nI b) = nI (if b ≤ a then a - b else b - a) := by
  unfold jabs
  by_cases z : b ≤ a
  · rw [if_pos z, pk_sub z, if_pos (nI_pos' (by omega))]
  · rw [if_neg z, if_neg (fun q => absurd (pk_sneg (a := a) (b := b) hb (by omega)) (Int32.not_lt.mpr q)), Int32.neg_sub, pk_sub (by omega)]
theorem canW_no {c : Nat} (z : ¬ canW h c = true) : o2i (ladF h c) = -6 := by
  unfold canW at z
  cases e : ladF h c with
  | none => rfl
  | some k => rw [e] at z; exact absurd (by simp) z
theorem spN_s (w : Nat → Int32) (n : Nat) : spN f w (n + 1) = if ndN f w n = -6 then spN f w n + jabs (f (12 + 8 * ix (w n) + 0) - hrN f w n) else if ndN f w n = caN f w n then spN f w n + jabs (f (12 + 8 * ix (w n) + 0) - hrN f w n) else spN f w n + jabs (f (12 + 8 * ix (w n) + 0) - hrN f w n) + 2 * f (12 + 8 * ix (w n) + 0) := rfl
theorem caN_s (w : Nat → Int32) (n : Nat) : caN f w (n + 1) = if ndN f w n = -6 then caN f w n else if ndN f w n = caN f w n then caN f w n else ndN f w n := rfl
theorem wkN_s (w : Nat → Int32) (n : Nat) : wkN f w (n + 1) = if canW f (ix (w n)) = true then wkN f w n + 1 else wkN f w n := rfl
theorem mo_mi (r : Ro f h) {w : Nat → Int32} {st wo : Nat} (e2 : h 2 = nI st) (e3 : h 3 = nI wo) : ∀ k, gdN h w k → ∃ A b, A ≤ 300 * k ∧ b ≤ 99 ∧ spN f w k = nI A ∧ hrN f w k = nI b ∧ (miS h w k).2.1 = nI b ∧ (miS h w k).2.2 = caN f w k ∧ (miS h w k).1 = nI (A * st + wkN f w k * wo) := by
  intro k
  induction k with
  | zero => intro _; exact ⟨0, 0, by omega, by omega, rfl, rfl, rfl, rfl, by rw [Nat.zero_mul, show wkN f w 0 = 0 from rfl, Nat.zero_mul]; rfl⟩
  | succ k ih =>
    intro g
    obtain ⟨A, b, hA, hb, i1, i2, i3, i4, i5⟩ := ih (gdN_lt g (by omega))
    obtain ⟨i, hi, e, ei⟩ := gdN_at r.1.W g (show k < k + 1 by omega)
    obtain ⟨D, hD, h4, W, S, vc⟩ := id r.1
    obtain ⟨a, ha, ea⟩ := (vc i hi).1
    have efa : f (12 + 8 * i + 0) = nI a := by rw [r.2 _ (by omega)]; exact ea
    obtain ⟨B, hB, d1, d2⟩ : ∃ B, B ≤ 99 ∧ jabs (nI a - nI b) = nI B ∧ jabs (nI b - nI a) = nI B := by
      by_cases z : b ≤ a
      · refine ⟨a - b, by omega, ?_, ?_⟩
        · rw [jabs_d (by omega) (by omega), if_pos z]
        · rw [jabs_d (by omega) (by omega)]
          by_cases z2 : a ≤ b
          · rw [if_pos z2, show b - a = a - b by omega]
          · rw [if_neg z2]
      · refine ⟨b - a, by omega, ?_, ?_⟩
        · rw [jabs_d (by omega) (by omega), if_neg z]
        · rw [jabs_d (by omega) (by omega), if_pos (by omega)]
    have d3 : jabs (nI a - 0) = nI a := by
      rw [show (0 : Int32) = nI 0 from rfl, jabs_d (by omega) (by omega), if_pos (by omega)]; rfl
    have hn : hrN f w (k + 1) = nI a := by
      show f (12 + 8 * ix (w k) + 0) = _
      rw [ei]; exact efa
    have nd : ndN f w k = o2i (ladF h i) := by unfold ndN; rw [ei, Ro_lad r hi]
    have cw : canW f i = canW h i := Ro_can r hi
    rw [miS_s, hn]
    rw [spN_s, caN_s, wkN_s]
    rw [nd, ei, efa, ea, cw, i1, i2, i3, i4, i5, d1, d2, d3, e2, e3]
    by_cases z : canW h i = true
    · rw [if_pos z, if_pos z]
      by_cases y : o2i (ladF h i) = -6
      · rw [if_pos y, if_pos y, if_pos y, if_pos (Or.inl y)]
        refine ⟨A + B, a, by omega, by omega, nI_add _ _, rfl, rfl, rfl, ?_⟩
        show nI (A * st + wkN f w k * wo) + nI B * nI st + nI wo + 0 = _
        rw [Int32.add_zero, pk_mul, nI_add, nI_add]
        refine congrArg nI ?_
        simp only [Nat.add_mul, Nat.one_mul]; omega
      · rw [if_neg y, if_neg y, if_neg y]
        by_cases x : o2i (ladF h i) = caN f w k
        · rw [if_pos x, if_pos x, if_pos (Or.inr x)]
          refine ⟨A + B, a, by omega, by omega, nI_add _ _, rfl, rfl, x, ?_⟩
          show nI (A * st + wkN f w k * wo) + nI B * nI st + nI wo + 0 = _
          rw [Int32.add_zero, pk_mul, nI_add, nI_add]
          refine congrArg nI ?_
          simp only [Nat.add_mul, Nat.one_mul]; omega
        · rw [if_neg x, if_neg x, if_neg (fun q => q.elim y x)]
          refine ⟨A + B + 2 * a, a, by omega, by omega, ?_, rfl, rfl, rfl, ?_⟩
          · rw [show (2 : Int32) = nI 2 from rfl, pk_mul, nI_add, nI_add]
          · show nI (A * st + wkN f w k * wo) + nI B * nI st + nI wo + 2 * (nI a * nI st) = _
            rw [show (2 : Int32) = nI 2 from rfl, pk_mul, pk_mul, pk_mul, nI_add, nI_add, nI_add]
            refine congrArg nI ?_
            simp only [Nat.add_mul, Nat.one_mul, Nat.mul_assoc]; omega
    · rw [if_neg z, if_neg z]
      have y := canW_no z
      rw [if_pos y, if_pos y]
      refine ⟨A + B, a, by omega, by omega, nI_add _ _, rfl, rfl, rfl, ?_⟩
      show nI (A * st + wkN f w k * wo) + nI B * nI st = _
      rw [pk_mul, nI_add]
      refine congrArg nI ?_
      simp only [Nat.add_mul]; omega
theorem mo_eq (r : Ro f h) {w : Nat → Int32} {L : Nat} (g : gdN h w L) (hL : L ≤ 80) : moN f w L = miV h w L ∧ ∃ t, t < 2 ^ 30 ∧ miV h w L = nI t := by
  obtain ⟨D, hD, h4, W, S, vc⟩ := id r.1
  obtain ⟨st, _, s2, e2⟩ := S.2.2.1
  obtain ⟨wo, _, o2, e3⟩ := S.2.2.2.1
  obtain ⟨A, b, hA, hb, i1, i2, i3, i4, i5⟩ := mo_mi r e2 e3 L g
  have d3 : jabs (nI b - 0) = nI b := by
    rw [show (0 : Int32) = nI 0 from rfl, jabs_d (by omega) (by omega), if_pos (by omega)]; rfl
  have hv : miV h w L = nI (A * st + wkN f w L * wo + b * st) := by
    unfold miV; rw [i3, d3, i5, e2, pk_mul, nI_add]
  have hk := wkN_le f w L
  have q1 : A * st ≤ (300 * 80) * 30 := Nat.mul_le_mul (by omega) s2
  have q2 : wkN f w L * wo ≤ 80 * 30 := Nat.mul_le_mul (by omega) o2
  have q3 : b * st ≤ 99 * 30 := Nat.mul_le_mul hb s2
  refine ⟨?_, _, ?_, hv⟩
  · rw [hv]; unfold moN
    rw [i1, i2, r.2 2 (by omega), r.2 3 (by omega), e2, e3, nI_add, pk_mul, pk_mul, nI_add]
    congr 1
    simp only [Nat.add_mul]; omega
  · omega
theorem bw_Iv {w : Nat → Int32} {L : Nat} {x : Int32} (v : Iv h) (g : gdN h w L) : Iv (upd (goF h w L) 7 x) ∧ cn (upd (goF h w L) 7 x) = cn h := by
  obtain ⟨D, hD, h4, W, S, vc⟩ := v
  obtain ⟨_, b2⟩ := wbN_Mx (f := h) W vc rfl L g
  have lo : ∀ j, j < 12 → j ≠ 7 → upd (goF h w L) 7 x j = h j := fun j hj hne => by rw [upd_ne hne]; exact goF_lo h w L hj
  have c5 := cn_low (lo 5 (by decide) (by decide))
  refine ⟨⟨D, hD, by rw [lo 4 (by decide) (by decide)]; exact h4, W.low (lo 5 (by decide) (by decide)) (lo 6 (by decide) (by decide)), ?_, fun c hc => ?_⟩, c5⟩
  · unfold IvS
    rw [ln_low (lo 6 (by decide) (by decide)), lo 0 (by decide) (by decide), lo 1 (by decide) (by decide), lo 2 (by decide) (by decide), lo 3 (by decide) (by decide)]
    refine ⟨S.1, S.2.1, S.2.2.1, S.2.2.2.1, fun j hj => ?_⟩
    have := W.2.2.2
    rw [lo (8 + j) (by omega) (by omega)]; exact S.2.2.2.2 j hj
  · rw [c5] at hc
    exact (b2 c hc).congr (fun w hw => upd_ne (by omega))
theorem gdN_Ro (r : Ro f h) {w : Nat → Int32} {L : Nat} : gdN f w L ↔ gdN h w L := by
  unfold gdN
  constructor
  · intro g i hi; rw [← Ro_isC r]; exact g i hi
  · intro g i hi; rw [Ro_isC r]; exact g i hi
theorem bwF_Mx (r : Ro f h) {w : Nat → Int32} {L : Nat} (g : gdN h w L) (x : Int32) : upd (wbN f w L) 7 x = Mx (cn h) (upd (goF h w L) 7 x) f := by
  obtain ⟨D, hD, h4, W, S, vc⟩ := id r.1
  obtain ⟨b1, b2⟩ := wbN_Mx (f := f) W vc (r.2 0 (by omega)) L g
  rw [← r.mx] at b1
  rw [b1, Mx_upd (by omega)]
/-- a beat to clocks that there are -/
theorem Cg_bw (r : Ro f h) {w : Nat → Int32} {L : Nat} (g : gdN h w L) (hL : L ≤ 80) : Cg f (bwR f w L) (bwF f w L) 0 (miV h w L) (goFF h w L) := by
  obtain ⟨e1, t, ht, e2⟩ := mo_eq r g hL
  have gb := (gdB_t f w L).mpr ((gdN_Ro r).mpr g)
  have h0 : 0 ≤ miV h w L := by rw [e2]; exact nI_pos' (by omega)
  unfold bwR bwF goFF
  rw [if_pos gb, if_pos gb, e1, if_pos h0, r.2 7 (by omega), bwF_Mx r g]
  obtain ⟨v, c5⟩ := bw_Iv (x := h 7 + miV h w L) r.1 g
  exact Or.inl ⟨rfl, rfl, h0, v, by rw [c5]⟩
theorem rowE_gd {w : Nat → Int32} : ∀ L, (rowE h w L = 0 ∧ gdN h w L) ∨ (rowE h w L = -1 ∧ ¬ gdN h w L) := by
  intro L
  induction L with
  | zero => exact Or.inl ⟨rfl, fun i hi => absurd hi (Nat.not_lt_zero _)⟩
  | succ L ih =>
    unfold rowE
    by_cases z : isCb h (w L) = true
    · rw [if_pos z]
      rcases ih with ⟨a, b⟩ | ⟨a, b⟩
      · exact Or.inl ⟨a, gdN_s b z⟩
      · exact Or.inr ⟨a, fun q => b (gdN_lt q (by omega))⟩
    · rw [if_neg z]; exact Or.inr ⟨rfl, fun q => z (q L (by omega))⟩
/-- an order -/
theorem Cg_one (r : Ro f h) {c : Int32} {one two three : Int32} {L : Nat} {w : Nat → Int32} (hL : L ≤ 80) (hc : c = 43 ∨ c = 97 ∨ c = 98 ∨ c = 108 ∨ c = 115 ∨ c = 116) :
    (exE h c one two three L w = 0 ∧ 0 ≤ oneR f c ((one, two, three), L, w) ∧ Iv (exF h c one two three L w) ∧ oneF f c ((one, two, three), L, w) = Mx (cn (exF h c one two three L w)) (exF h c one two three L w) f) ∨ (exE h c one two three L w ≠ 0 ∧ ¬ 0 ≤ oneR f c ((one, two, three), L, w) ∧ oneF f c ((one, two, three), L, w) = f) := by
  have fin : ∀ {Rc : Int32} {F f' : Nat → Int32} {flt v : Int32}, Cg f Rc F flt v f' → (flt = 0 ∧ 0 ≤ Rc ∧ Iv f' ∧ F = Mx (cn f') f' f) ∨ (flt ≠ 0 ∧ ¬ 0 ≤ Rc ∧ F = f) := by
    intro Rc F f' flt v k
    rcases k with ⟨a, b, c, d, e⟩ | ⟨a, b, c⟩
    · exact Or.inl ⟨a, by rw [b]; exact c, d, e⟩
    · exact Or.inr ⟨fun z => by rw [z] at a; exact absurd a (by decide), by rw [b]; exact Int32.lt_nle a, c⟩
  unfold exE exF oneR oneF
  have n1 : chE 1 = 0 := by decide
  have n0 : chE 0 = 0 := by decide
  rcases hc with e | e | e | e | e | e
  · rw [if_pos e, if_pos e, if_pos e, if_pos e]
    exact fin (Cg_hang r one two three)
  · have a43 : ¬ c = 43 := by rw [e]; decide
    have a98 : ¬ c = 98 := by rw [e]; decide
    have a108 : ¬ c = 108 := by rw [e]; decide
    have a116 : ¬ c = 116 := by rw [e]; decide
    simp only [if_neg a43, if_neg a98, if_neg a108, if_neg a116, if_pos e]
    have := fin (Cg_chg r 1)
    rw [n1] at this
    rcases this with ⟨_, a⟩ | a
    · exact Or.inl ⟨trivial, a⟩
    · exact Or.inr a
  · have a43 : ¬ c = 43 := by rw [e]; decide
    have a97 : ¬ c = 97 := by rw [e]; decide
    have a108 : ¬ c = 108 := by rw [e]; decide
    simp only [if_neg a43, if_neg a97, if_neg a108, if_pos e]
    rcases rowE_gd (h := h) (w := w) L with ⟨a, b⟩ | ⟨a, b⟩
    · rw [a]
      exact fin (Cg_bw r b hL)
    · have gn : ¬ gdB f w L = true := fun z => b ((gdN_Ro r).mp ((gdB_t f w L).mp z))
      refine Or.inr ⟨by rw [a]; decide, ?_, ?_⟩
      · show ¬ 0 ≤ bwR f w L
        unfold bwR
        rw [if_neg gn]; decide
      · show bwF f w L = f
        unfold bwF
        rw [if_neg gn]
  · have a43 : ¬ c = 43 := by rw [e]; decide
    have a97 : ¬ c = 97 := by rw [e]; decide
    have a98 : ¬ c = 98 := by rw [e]; decide
    simp only [if_neg a43, if_neg a97, if_neg a98, if_pos e]
    exact fin (Cg_lad r one)
  · have a43 : ¬ c = 43 := by rw [e]; decide
    have a97 : ¬ c = 97 := by rw [e]; decide
    have a98 : ¬ c = 98 := by rw [e]; decide
    have a108 : ¬ c = 108 := by rw [e]; decide
    have a116 : ¬ c = 116 := by rw [e]; decide
    simp only [if_neg a43, if_neg a97, if_neg a98, if_neg a108, if_neg a116, if_pos e]
    have := fin (Cg_chg r 0)
    rw [n0] at this
    rcases this with ⟨_, a⟩ | a
    · exact Or.inl ⟨trivial, a⟩
    · exact Or.inr a
  · have a43 : ¬ c = 43 := by rw [e]; decide
    have a97 : ¬ c = 97 := by rw [e]; decide
    have a98 : ¬ c = 98 := by rw [e]; decide
    have a108 : ¬ c = 108 := by rw [e]; decide
    have a115 : ¬ c = 115 := by rw [e]; decide
    simp only [if_neg a43, if_neg a97, if_neg a98, if_neg a108, if_neg a115, if_pos e]
    exact fin (Cg_pass r one)
end R5
end
section
/-! the relation, sixth: the answers -/
section R6
variable {f h : Nat → Int32}
theorem Ro_off (r : Ro f h) {c : Nat} (hc : c < cn h) (t : Int32) : offB f c t = offB h c t := by rw [r.mx]; exact offB_Mx hc t
theorem of_eq (r : Ro f h) (x w : Int32) : ofR f x w = ofR h x w := by
  unfold ofR
  rw [Ro_isC r]
  by_cases hb : isCb h x = true
  · obtain ⟨i, hi, rfl⟩ := (isC_iff r.1.W x).mp hb
    have e : ix (nI i) = i := ix_nI (by have := r.1.W.2.1; omega)
    rw [if_pos hb, if_pos hb, e, r.2 (12 + 8 * i + 0) (by omega), r.2 (12 + 8 * i + 1) (by omega), r.2 (12 + 8 * i + 2) (by omega), r.2 (12 + 8 * i + 3) (by omega), r.2 (12 + 8 * i + 4) (by omega), r.2 (12 + 8 * i + 5) (by omega), r.2 (12 + 8 * i + 6) (by omega), r.2 (12 + 8 * i + 7) (by omega), r.2 0 (by omega), Ro_off r hi, Ro_lad r hi, Ro_can r hi]
  · rw [if_neg hb, if_neg hb]
theorem lof_eq (r : Ro f h) (x : Int32) : lofR f x = lofR h x := by
  unfold lofR
  rw [r.2 6 (by omega)]
  by_cases hb : inB x 0 (h 6 - 1) = true
  · obtain ⟨i, hi, rfl⟩ := lof_iff r.1.W hb
    have := r.1.W.2.2.2
    rw [if_pos hb, if_pos hb, ix_nI (by omega), r.2 (8 + i) (by omega)]
  · rw [if_neg hb, if_neg hb]
theorem stC_Ro (r : Ro f h) : ∀ k, k ≤ cn h → stC f k = stC h k := by
  intro k
  induction k with
  | zero => intro _; rfl
  | succ k ih => intro hk; unfold stC; rw [ih (by omega), r.2 _ (by omega)]
theorem of4 (r : Ro f h) : ∀ k, k ≤ cn h → nI (ofN f k) = sumN h 4 k := by
  intro k
  induction k with
  | zero => intro _; rfl
  | succ k ih =>
    intro hk
    unfold ofN sumN
    rw [← ih (by omega), if_neg (show ¬ (4 : Int32) = 7 by decide), if_pos (rfl : (4 : Int32) = 4), Ro_off r (by omega), r.2 0 (by omega)]
    by_cases z : offB h k (h 0) = true
    · rw [if_pos z, if_pos z, nI_1]
    · rw [if_neg z, if_neg z, Int32.add_zero]
theorem cw5 (r : Ro f h) : ∀ k, k ≤ cn h → nI (cwN f k) = sumN h 5 k := by
  intro k
  induction k with
  | zero => intro _; rfl
  | succ k ih =>
    intro hk
    unfold cwN sumN
    rw [← ih (by omega), if_neg (show ¬ (5 : Int32) = 7 by decide), if_neg (show ¬ (5 : Int32) = 4 by decide), Ro_can r (by omega)]
    by_cases z : canW h k = true
    · rw [if_pos z, if_pos z, Int32.add_zero]
    · rw [if_neg z, if_neg z, nI_1]
theorem tw7 (r : Ro f h) : ∀ k, k ≤ cn h → twN f k = sumN h 7 k := by
  intro k
  induction k with
  | zero => intro _; rfl
  | succ k ih =>
    intro hk
    unfold twN sumN
    rw [← ih (by omega), if_pos (rfl : (7 : Int32) = 7), r.2 _ (by omega)]
theorem cnt_eq (r : Ro f h) (len kn w : Int32) : cntC f len kn w = cntR h len kn w := by
  obtain ⟨D, hD, h4, W, S, vc⟩ := id r.1
  unfold cntC cntR
  rw [r.ec, stC_Ro r _ (Nat.le_refl _), stillN_e _ (fun c hc => (vc c hc).go), of4 r _ (Nat.le_refl _), cw5 r _ (Nat.le_refl _), tw7 r _ (Nat.le_refl _), r.2 0 (by omega), r.2 1 (by omega), r.2 2 (by omega), r.2 3 (by omega), r.2 4 (by omega), r.2 5 (by omega), r.2 6 (by omega), r.2 7 (by omega)]
/-! which ladder to buy -/
theorem ru_mo (r : Ro f h) : ∀ k, k ≤ cn h → (ruN f k = 0 ∧ mostN h k = -6) ∨ (∃ a, 1 ≤ a ∧ a ≤ 30 ∧ ruN f k = nI a ∧ mostN h k = nI a) := by
  obtain ⟨D, hD, h4, W, S, vc⟩ := id r.1
  intro k
  induction k with
  | zero => intro _; exact Or.inl ⟨rfl, rfl⟩
  | succ k ih =>
    intro hk
    unfold ruN mostN
    rw [Ro_can r (by omega)]
    by_cases z : canW h k = true
    · rw [if_pos z, if_pos z]; exact ih (by omega)
    · rw [if_neg z, if_neg z]
      obtain ⟨a, ha, ea⟩ := (vc k (by omega)).2.1
      have a0 : a ≠ 0 := fun y => z (canW_t.mpr (Or.inl (by rw [ea, y]; rfl)))
      rw [r.2 _ (by omega), ea]
      rcases ih (by omega) with ⟨e1, e2⟩ | ⟨b, hb1, hb, e1, e2⟩
      · rw [e1, e2]
        have j1 : jmax 0 (nI a) = nI a := by
          unfold jmax; rw [if_pos (show (0 : Int32) < nI a from (nI_ltI (a := 0) (b := a) (by decide) (by omega)).mpr (by omega))]
        have j2 : ¬ nI a ≤ -6 := fun q => by
          rw [Int32.le_iff_toInt_le, nI_toInt (by omega), show (-6 : Int32).toInt = -6 from by decide] at q; omega
        rw [j1, if_neg j2]
        exact Or.inr ⟨a, by omega, ha, rfl, rfl⟩
      · rw [e1, e2]
        by_cases y : a ≤ b
        · have j1 : jmax (nI b) (nI a) = nI b := by
            unfold jmax; rw [if_neg (fun q => by have := (nI_ltI (a := b) (b := a) (by omega) (by omega)).mp q; omega)]
          rw [j1, if_pos ((nI_leI (by omega) (by omega)).mpr y)]
          exact Or.inr ⟨b, hb1, hb, rfl, rfl⟩
        · have j1 : jmax (nI b) (nI a) = nI a := by
            unfold jmax; rw [if_pos ((nI_ltI (by omega) (by omega)).mpr (by omega))]
          rw [j1, if_neg (fun q => y ((nI_leI (by omega) (by omega)).mp q))]
          exact Or.inr ⟨a, by omega, ha, rfl, rfl⟩
theorem lf_eq (r : Ro f h) : lfC f = if ln h = 4 then -4 else mostN h (cn h) := by
  have l4 := r.1.W.2.2.2
  unfold lfC
  rw [Ro_ln r, r.ec]
  by_cases z : ln h < 4
  · rw [if_pos z, if_neg (show ¬ ln h = 4 by omega)]
    rcases ru_mo r _ (Nat.le_refl _) with ⟨e1, e2⟩ | ⟨b, hb1, hb, e1, e2⟩
    · rw [e1, e2, if_pos rfl]
    · rw [e1, e2, if_neg (nI_ne0 (by omega) (by omega))]
  · rw [if_neg z, if_pos (show ln h = 4 by omega)]
/-! the row of a set of clocks -/
theorem ch_lo (x : Int32) (n : Nat) (w w' : Nat → Int32) : ∀ k, chL x k = loL n x false w' k ∧ ∀ j, j < chL x k → chW w x k j = loN n x false w' k j := by
  intro k
  induction k with
  | zero => exact ⟨rfl, fun j hj => absurd hj (Nat.not_lt_zero _)⟩
  | succ k ih =>
    obtain ⟨i1, i2⟩ := ih
    unfold chL chW
    by_cases z : (x >>> (nI k &&& 31)) &&& 1 = 1
    · obtain ⟨a, b⟩ := loW_t (n := n) (b := false) (w := w') (k := k) z
      rw [if_pos z, if_pos z, a, b, i1]
      refine ⟨rfl, fun j hj => ?_⟩
      by_cases e : j = loL n x false w' k
      · subst e; rw [upd_self, upd_self]; rfl
      · rw [upd_ne e, upd_ne e]; exact i2 j (by rw [i1]; omega)
    · obtain ⟨a, b⟩ := loW_f (n := n) (b := false) (w := w') (k := k) z
      rw [if_neg z, if_neg z, a, b]
      exact ⟨i1, i2⟩
theorem miV_cong {w w2 : Nat → Int32} (L : Nat) (e : ∀ j, j < L → w j = w2 j) : miV h w L = miV h w2 L := by
  unfold miV; rw [miS_congr h L e]
/-- the same row from the last clock to the first -/
theorem lo_rev (x : Int32) (n : Nat) (w w' : Nat → Int32) : ∀ k, k ≤ n → loL n x true w' k + loL n x false w (n - k) = loL n x false w n ∧ ∀ j, j < loL n x true w' k → loN n x true w' k j = loN n x false w n (loL n x false w n - 1 - j) := by
  have mono : ∀ a b, a ≤ b → loL n x false w a ≤ loL n x false w b ∧ ∀ j, j < loL n x false w a → loN n x false w b j = loN n x false w a j := by
    intro a b hab
    obtain ⟨d, rfl⟩ : ∃ d, b = a + d := ⟨b - a, by omega⟩
    clear hab
    induction d with
    | zero => exact ⟨Nat.le_refl _, fun _ _ => rfl⟩
    | succ d ih =>
      by_cases z : (x >>> (nI (loC n false (a + d)) &&& 31)) &&& 1 = 1
      · obtain ⟨u, v⟩ := loW_t (w := w) z
        rw [show a + (d + 1) = a + d + 1 by omega, u, v]
        refine ⟨by omega, fun j hj => ?_⟩
        rw [upd_ne (by omega)]; exact ih.2 j hj
      · obtain ⟨u, v⟩ := loW_f (w := w) z
        rw [show a + (d + 1) = a + d + 1 by omega, u, v]
        exact ih
  intro k
  induction k with
  | zero => intro _; exact ⟨by show 0 + _ = _; rw [Nat.zero_add, Nat.sub_zero], fun j hj => absurd hj (Nat.not_lt_zero _)⟩
  | succ k ih =>
    intro hk
    obtain ⟨i1, i2⟩ := ih (by omega)
    have ec : loC n true k = n - (k + 1) := by show n - 1 - k = _; omega
    have ec2 : loC n false (n - (k + 1)) = n - (k + 1) := rfl
    have es : n - k = n - (k + 1) + 1 := by omega
    by_cases z : (x >>> (nI (n - (k + 1)) &&& 31)) &&& 1 = 1
    · obtain ⟨u, v⟩ := loW_t (n := n) (b := true) (w := w') (k := k) (by rw [ec]; exact z)
      obtain ⟨u2, v2⟩ := loW_t (n := n) (b := false) (w := w) (k := n - (k + 1)) (by rw [ec2]; exact z)
      rw [es, u2] at i1
      rw [u, v, ec]
      refine ⟨by omega, fun j hj => ?_⟩
      by_cases e : j = loL n x true w' k
      · have m := mono (n - (k + 1) + 1) n (by omega)
        rw [u2, v2, ec2] at m
        have m2 := m.2 (loL n x false w (n - (k + 1))) (by omega)
        rw [upd_self] at m2
        rw [e, upd_self, show loL n x false w n - 1 - loL n x true w' k = loL n x false w (n - (k + 1)) by omega, m2]
      · rw [upd_ne e]; exact i2 j (by omega)
    · obtain ⟨u, v⟩ := loW_f (n := n) (b := true) (w := w') (k := k) (by rw [ec]; exact z)
      obtain ⟨u2, v2⟩ := loW_f (n := n) (b := false) (w := w) (k := n - (k + 1)) (by rw [ec2]; exact z)
      rw [es, u2] at i1
      rw [u, v]
      exact ⟨i1, i2⟩
theorem way_eq (a b : Nat) (ha : a < 2 ^ 30) (hb : b < 2 ^ 30) : wayC (nI a) (nI b) = wayR (nI a) (nI b) := by
  unfold wayC wayR
  by_cases e : a = b
  · subst e; rw [if_pos rfl, if_pos (nI_le (Nat.le_refl _) (by omega)), if_pos (nI_le (Nat.le_refl _) (by omega))]
  · rw [if_neg (fun z => e ((nI_eq (by omega) (by omega)).mp z))]
    by_cases y : b ≤ a
    · rw [if_pos (nI_le y (by omega)), if_pos (nI_le y (by omega)), if_neg (fun z => by have := (nI_leI (by omega) (by omega)).mp z; omega)]
    · rw [if_neg (fun z => y ((nI_leI (by omega) (by omega)).mp z)), if_neg (fun z => y ((nI_leI (by omega) (by omega)).mp z))]
/-! days until a clock is off -/
theorem duL_spec (c : Nat) (t : Int32) : ∀ u d, d ≤ duL h c t u d ∧ duL h c t u d ≤ d + u ∧ (∀ e, d ≤ e → e < duL h c t u d → jabs (h (12 + 8 * c + 4) + nI e * rt h c) ≤ t) ∧ (duL h c t u d < d + u → ¬ jabs (h (12 + 8 * c + 4) + nI (duL h c t u d) * rt h c) ≤ t) := by
  intro u
  induction u with
  | zero => intro d; exact ⟨Nat.le_refl _, Nat.le_refl _, fun e h1 h2 => absurd h2 (by show ¬ e < d; omega), fun z => absurd z (by show ¬ d < d + 0; omega)⟩
  | succ u ih =>
    intro d
    unfold duL
    by_cases z : jabs (h (12 + 8 * c + 4) + nI d * rt h c) ≤ t
    · rw [if_pos z]
      obtain ⟨i1, i2, i3, i4⟩ := ih (d + 1)
      refine ⟨by omega, by omega, fun e h1 h2 => ?_, fun q => i4 (by omega)⟩
      by_cases y : e = d
      · rw [y]; exact z
      · exact i3 e (by omega) h2
    · rw [if_neg z]
      exact ⟨Nat.le_refl _, by omega, fun e h1 h2 => by omega, fun _ => z⟩
theorem last_spec {c s0 wd : Nat} (g : h (12 + 8 * c + 6) = 1) (e5 : h (12 + 8 * c + 5) = nI s0) (hs : s0 ≤ 20000) (e1 : h 1 = nI wd) (hw : wd ≤ 30) : ∀ d, (d = 0 ∨ s0 + d ≤ wd) → lastN h c d (12 + 8 * c + 6) = 1 ∧ lastN h c d (12 + 8 * c + 5) = nI (s0 + d) ∧ lastN h c d (12 + 8 * c + 4) = h (12 + 8 * c + 4) + nI d * rt h c ∧ rt (lastN h c d) c = rt h c := by
  intro d
  induction d with
  | zero => intro _; exact ⟨g, e5, by rw [show nI 0 = 0 from rfl, Int32.zero_mul, Int32.add_zero]; rfl, rfl⟩
  | succ d ih =>
    intro hd
    obtain ⟨i1, i2, i3, i4⟩ := ih (by omega)
    have l1 : lastN h c d 1 = nI wd := by rw [lastN_lo h c d (by omega)]; exact e1
    have le : lastN h c d (12 + 8 * c + 5) + 1 ≤ lastN h c d 1 := by rw [i2, nI_1, l1, nI_leI (by omega) (by omega)]; omega
    have e : lastN h c (d + 1) = upd (upd (lastN h c d) (12 + 8 * c + 5) (lastN h c d (12 + 8 * c + 5) + 1)) (12 + 8 * c + 4) (lastN h c d (12 + 8 * c + 4) + rt (lastN h c d) c) := by
      show dayM (lastN h c d) c = _
      unfold dayM
      rw [if_pos i1, if_neg (fun z => z le)]
    refine ⟨?_, ?_, ?_, ?_⟩
    · rw [e, upd_ne (by omega), upd_ne (by omega)]; exact i1
    · rw [e, upd_ne (by omega), upd_self, i2, nI_1]; rfl
    · rw [e, upd_self, i3, i4, nI_succ, Int32.add_mul, Int32.one_mul, Int32.add_assoc]
    · rw [← i4]
      unfold rt
      rw [e, upd_ne (by omega), upd_ne (by omega), upd_ne (by omega), upd_ne (by omega)]
theorem lasts_spec (v : Iv h) {c : Nat} (hc : c < cn h) : offB (lastN h c (duS h c)) c (lastN h c (duS h c) 0) = true ∧ ∀ d, d < duS h c → offB (lastN h c d) c (lastN h c d 0) = false := by
  obtain ⟨D, hD, h4, W, S, vc⟩ := v
  obtain ⟨told, t1, t2, e0⟩ := S.1
  obtain ⟨wd, w1, w2, e1⟩ := S.2.1
  obtain ⟨v0, v1, v3, ⟨s0, hs, e5⟩, vg⟩ := vc c hc
  have l0 : ∀ d, lastN h c d 0 = h 0 := fun d => lastN_lo h c d (by omega)
  have l1 : ∀ d, lastN h c d 1 = h 1 := fun d => lastN_lo h c d (by omega)
  have still : ∀ k : Nat → Int32, k (12 + 8 * c + 4) = 43200 → offB k c (h 0) = true := by
    intro k ek
    unfold offB
    rw [ek, e0, decide_eq_true_iff]
    intro z
    rw [show jabs 43200 = nI 43200 from by decide] at z
    have := (nI_leI (by omega) (by omega)).mp z
    omega
  unfold duS duC
  by_cases z : offB h c (h 0) = true
  · rw [if_pos z]
    exact ⟨z, fun d hd => absurd hd (Nat.not_lt_zero _)⟩
  · rw [if_neg z]
    have g : h (12 + 8 * c + 6) = 1 := by
      rcases vg with a | ⟨_, a⟩
      · exact a
      · exact absurd (still h a) z
    have es : stD h c = max 1 (wd + 1 - s0) := by
      unfold stD; rw [e1, e5, ix_nI (by omega), ix_nI (by omega)]
    obtain ⟨p1, p2, p3, p4⟩ := duL_spec (h := h) c (h 0) (stD h c - 1) 1
    have ls := last_spec g e5 (by omega) e1 w2
    have in1 : ∀ d, d < stD h c → d = 0 ∨ s0 + d ≤ wd := fun d hd => by rw [es] at hd; omega
    refine ⟨?_, fun d hd => ?_⟩
    · rw [l0]
      by_cases y : duL h c (h 0) (stD h c - 1) 1 < 1 + (stD h c - 1)
      · unfold offB
        rw [(ls _ (in1 _ (by omega))).2.2.1]
        exact decide_eq_true (p4 y)
      · have ed : duL h c (h 0) (stD h c - 1) 1 = (stD h c - 1) + 1 := by omega
        rw [ed]
        obtain ⟨q1, q2, q3, q4⟩ := ls (stD h c - 1) (in1 _ (by omega))
        apply still
        show dayM (lastN h c (stD h c - 1)) c _ = _
        unfold dayM
        rw [if_pos q1, q2, nI_1, l1, e1, if_pos (fun z => by
          have := (nI_leI (by omega) (by omega)).mp z
          omega), upd_self]
    · rw [l0]
      by_cases y : d = 0
      · subst y
        have : offB h c (h 0) = false := by
          cases q : offB h c (h 0) with
          | false => rfl
          | true => exact absurd q z
        exact this
      · unfold offB
        rw [(ls _ (in1 _ (by omega))).2.2.1]
        have := p3 d (by omega) hd
        simp [this]
theorem Ro_duS (r : Ro f h) {c : Nat} (hc : c < cn h) : duS f c = duS h c := by
  have a : ∀ u d, duL f c (h 0) u d = duL h c (h 0) u d := by
    intro u
    induction u with
    | zero => intro d; rfl
    | succ u ih =>
      intro d
      unfold duL
      rw [ih, r.2 _ (by omega), show rt f c = rt h c by rw [r.mx]; exact rt_Mx hc]
  unfold duS duC stD
  rw [r.2 0 (by omega), r.2 1 (by omega), r.2 (12 + 8 * c + 5) (by omega), a, Ro_off r hc]
theorem ahead_eq (T : Tm h) (c : Nat) : ∀ k, aheadN (fun i => nI (duS h i)) c k = nI (raN h c k) := by
  intro k
  induction k with
  | zero => rfl
  | succ k ih =>
    have l1 := duS_lt T k
    have l2 := duS_lt T c
    unfold aheadN raN
    rw [ih]
    by_cases z : duS h k < duS h c
    · rw [if_pos z, if_pos ((nI_ltI l1 l2).mpr z), nI_1]
    · rw [if_neg z, if_neg (fun q => z ((nI_ltI l1 l2).mp q))]
      by_cases y : duS h k = duS h c
      · rw [if_pos y, if_pos (by rw [y])]
        by_cases x : c ≤ k
        · rw [if_pos x, if_pos x, Int32.add_zero]
        · rw [if_neg x, if_neg x, nI_1]
      · rw [if_neg y, if_neg (fun q => y ((nI_eq l1 l2).mp q)), Int32.add_zero]
theorem Ro_raN (r : Ro f h) {c : Nat} (hc : c < cn h) : ∀ k, k ≤ cn h → raN f c k = raN h c k := by
  intro k
  induction k with
  | zero => intro _; rfl
  | succ k ih =>
    intro hk
    unfold raN
    rw [ih (by omega), Ro_duS r hc, Ro_duS r (show k < cn h by omega)]
theorem ne_eq (r : Ro f h) (x : Int32) : neC f (cn h) x (cn h) = needN (fun i => nI (duS h i)) (cn h) x (cn h) := by
  have T : Tm h := Ro.T ⟨r.1, fun _ _ => rfl⟩
  have key : ∀ k, k ≤ cn h → neC f (cn h) x k = needN (fun i => nI (duS h i)) (cn h) x k := by
    intro k
    induction k with
    | zero => intro _; rfl
    | succ k ih =>
      intro hk
      unfold neC needN
      rw [ih (by omega), ahead_eq T, Ro_raN r (by omega) _ (Nat.le_refl _)]
  exact key _ (Nat.le_refl _)
end R6
end
section
/-! the relation, seventh: texts -/
section R7
variable {t t' : Nat → Int32} {len : Nat}
theorem chr_cong (e : ∀ j, j < len → t j = t' j) : chr t len = chr t' len := by
  funext p
  unfold chr
  by_cases z : p < len
  · rw [if_pos z, if_pos z, e p z]
  · rw [if_neg z, if_neg z]
theorem nxB_cong (e : ∀ j, j < len → t j = t' j) : nxB t len = nxB t' len := by
  funext p lo hi
  unfold nxB
  by_cases z : p < len
  · rw [e p z]
  · simp [z]
theorem rN_cong (hc : chr t len = chr t' len) (hn : nxB t len = nxB t' len) : rN t len = rN t' len := by
  funext p; unfold rN; rw [hc, hn]
theorem rB_cong2 (hc : chr t len = chr t' len) (hn : nxB t len = nxB t' len) : ∀ u, rB t len u = rB t' len u := by
  intro u
  induction u with
  | zero => rfl
  | succ u ih => funext p n w; unfold rB; rw [hn, rN_cong hc hn, ih]
theorem rP_cong (hc : chr t len = chr t' len) (hn : nxB t len = nxB t' len) : rP t len = rP t' len := by
  funext p; unfold rP; rw [hc, hn, rN_cong hc hn]
theorem rO_cong (hc : chr t len = chr t' len) (hn : nxB t len = nxB t' len) : rO t len = rO t' len := by
  funext p; unfold rO; rw [hc, rN_cong hc hn, rP_cong hc hn, rB_cong2 hc hn]
theorem gF_cong (e : ∀ j, j < len → t j = t' j) : ∀ u, gF t len u = gF t' len u := by
  intro u
  induction u with
  | zero => rfl
  | succ u ih => funext p; unfold gF; rw [rO_cong (chr_cong e) (nxB_cong e), chr_cong e, ih]
theorem cO_cong (e : ∀ j, j < len → t j = t' j) : ∀ u, cO t len u = cO t' len u := by
  intro u
  induction u with
  | zero => rfl
  | succ u ih => funext p f; unfold cO exE' exF'; rw [rO_cong (chr_cong e) (nxB_cong e), chr_cong e, ih]
theorem rO_chr {T : Nat → Int32} {p : Nat} (h : (rO T len p).1 = true) : chr T len p = 43 ∨ chr T len p = 97 ∨ chr T len p = 98 ∨ chr T len p = 108 ∨ chr T len p = 115 ∨ chr T len p = 116 := by
  by_cases a : chr T len p = 115
  · exact Or.inr (Or.inr (Or.inr (Or.inr (Or.inl a))))
  by_cases b : chr T len p = 97
  · exact Or.inr (Or.inl b)
  by_cases c : chr T len p = 43
  · exact Or.inl c
  by_cases d : chr T len p = 108
  · exact Or.inr (Or.inr (Or.inr (Or.inl d)))
  by_cases e : chr T len p = 98
  · exact Or.inr (Or.inr (Or.inl e))
  by_cases g : chr T len p = 116
  · exact Or.inr (Or.inr (Or.inr (Or.inr (Or.inr g))))
  unfold rO at h
  dsimp only at h
  rw [if_neg a, if_neg b, if_neg c, if_neg d, if_neg e, if_neg g] at h
  exact absurd (show false = true from h) (by decide)
theorem cc_co {T : Nat → Int32} (h80 : len ≤ 80) : ∀ (U p : Nat) (h f : Nat → Int32) (q u : Nat), Ro f h → goOk f → ((q = 0 ∧ p = 0) ∨ (0 < q ∧ chr T len q = 59 ∧ p = q + 1)) → p ≤ len → len < p + U → len ≤ p + u → gF T len U p = none → (ccO T len u q f).1 = (cO T len U p h).1 ∧ Ro (ccO T len u q f).2 (cO T len U p h).2 ∧ goOk (ccO T len u q f).2 := by
  intro U
  induction U with
  | zero => intro p h f q u r k hq hp hU; omega
  | succ U ih =>
    intro p h f q u r k hq hp hU hu hg
    have hz : q = 0 ∨ (0 < q ∧ chr T len q = 59) := by
      rcases hq with ⟨a, _⟩ | ⟨a, b, _⟩
      · exact Or.inl a
      · exact Or.inr ⟨a, b⟩
    have ep : p0of T len q = p := by
      unfold p0of
      rcases hq with ⟨a, b⟩ | ⟨a, b, c⟩
      · rw [if_pos a, b]
      · rw [if_neg (by omega), c]
    unfold gF at hg
    have hO : (rO T len p).1 = true := by
      cases e : (rO T len p).1 with
      | true => rfl
      | false => rw [e, if_neg (by decide)] at hg; cases hg
    rw [if_pos hO] at hg
    have pl := rO_place T len p hp
    have pl3 := pl.2.2 hO
    obtain ⟨u', rfl⟩ : ∃ u', u = u' + 1 := ⟨u - 1, by omega⟩
    have key := Cg_one r (one := (rO T len p).2.2.1.1) (two := (rO T len p).2.2.1.2.1) (three := (rO T len p).2.2.1.2.2) (w := (rO T len p).2.2.2.2) (rO_len T len p hp h80) (rO_chr hO)
    have eE : exE' T len p h = exE h (chr T len p) (rO T len p).2.2.1.1 (rO T len p).2.2.1.2.1 (rO T len p).2.2.1.2.2 (rO T len p).2.2.2.1 (rO T len p).2.2.2.2 := rfl
    have eF : exF' T len p h = exF h (chr T len p) (rO T len p).2.2.1.1 (rO T len p).2.2.1.2.1 (rO T len p).2.2.1.2.2 (rO T len p).2.2.2.1 (rO T len p).2.2.2.2 := rfl
    rw [← eE, ← eF] at key
    rcases key with ⟨k1, k2, k3, k4⟩ | ⟨k1, k2, k4⟩
    · have k2' : 0 ≤ oneR f (chr T len (p0of T len q)) (rO T len (p0of T len q)).2.2 := by rw [ep]; exact k2
      have k4' : oneF f (chr T len p) (rO T len p).2.2 = Mx (cn (exF' T len p h)) (exF' T len p h) f := k4
      rw [ccO_go hz (by rw [ep]; exact hO) k2', ep, k4']
      have r' := Ro.of k3 f rfl
      have g' := goOk_Mx k3 k
      by_cases hl : (rO T len p).2.1 < len
      · rw [if_pos hl] at hg
        have h59 : chr T len (rO T len p).2.1 = 59 := by
          by_cases z : inB (chr T len (rO T len p).2.1) 59 59 = true
          · obtain ⟨a, b⟩ := inB_t.mp z
            exact Int32.le_antisymm (Int32.not_lt.mp b) (Int32.not_lt.mp a)
          · rw [if_neg z] at hg; cases hg
        rw [if_pos (inB_yes h59)] at hg
        rw [cO_go k1 hl]
        have := ih ((rO T len p).2.1 + 1) (exF' T len p h) _ (rO T len p).2.1 u' r' g' (Or.inr ⟨by omega, h59, rfl⟩) hl (by omega) (by omega) hg
        exact ⟨by rw [this.1], this.2⟩
      · rw [cO_end k1 hl, ccO_no1 (by omega) (by rw [chr_out (by omega)]; decide)]
        exact ⟨rfl, r', g'⟩
    · have k2' : ¬ 0 ≤ oneR f (chr T len (p0of T len q)) (rO T len (p0of T len q)).2.2 := by rw [ep]; exact k2
      have k4' : oneF f (chr T len p) (rO T len p).2.2 = f := k4
      rw [ccO_no3 hz (by rw [ep]; exact hO) k2', ep, k4', cO_no k1]
      exact ⟨rfl, r, k⟩
end R7
/-- what holds of the class's row throughout the orders of a text -/
def InvO (f : Nat → Int32) : Prop := ∃ h, Ro f h
theorem InvO_w {f : Nat → Int32} (h : InvO f) : Wk f ∧ Lad f := by obtain ⟨h, r⟩ := h; exact ⟨r.W, r.L⟩
theorem InvO_s (f : Nat → Int32) (c : Int32) (R : (Int32 × Int32 × Int32) × Nat × (Nat → Int32)) (h : InvO f) (h0 : 0 ≤ oneR f c R) : InvO (oneF f c R) := by
  obtain ⟨h, r⟩ := h
  have fin : ∀ {Rc : Int32} {F f' : Nat → Int32} {flt v : Int32}, Cg f Rc F flt v f' → InvO F := by
    intro Rc F f' flt v k
    rcases k with ⟨a, b, c, d, e⟩ | ⟨a, b, c⟩
    · exact ⟨f', Ro.of d f e⟩
    · rw [c]; exact ⟨h, r⟩
  unfold oneR at h0
  unfold oneF
  by_cases a43 : c = 43
  · rw [if_pos a43]; exact fin (Cg_hang r _ _ _)
  rw [if_neg a43] at h0 ⊢
  by_cases a97 : c = 97
  · rw [if_pos a97]; exact fin (Cg_chg r 1)
  rw [if_neg a97] at h0 ⊢
  by_cases a98 : c = 98
  · rw [if_pos a98] at h0 ⊢
    unfold bwF
    by_cases g : gdB f R.2.2 R.2.1 = true
    · rw [if_pos g]
      by_cases m : 0 ≤ moN f R.2.2 R.2.1
      · rw [if_pos m]
        have g2 := (gdN_Ro r).mp ((gdB_t _ _ _).mp g)
        obtain ⟨v, c5⟩ := bw_Iv (x := f 7 + moN f R.2.2 R.2.1) r.1 g2
        exact ⟨_, Ro.of v f (by rw [c5]; exact bwF_Mx r g2 _)⟩
      · rw [if_neg m]; exact ⟨h, r⟩
    · rw [if_neg g]; exact ⟨h, r⟩
  rw [if_neg a98] at h0 ⊢
  by_cases a108 : c = 108
  · rw [if_pos a108]; exact fin (Cg_lad r _)
  rw [if_neg a108] at h0 ⊢
  by_cases a115 : c = 115
  · rw [if_pos a115]; exact fin (Cg_chg r 0)
  rw [if_neg a115] at h0 ⊢
  by_cases a116 : c = 116
  · rw [if_pos a116]; exact fin (Cg_pass r _)
  rw [if_neg a116]; exact ⟨h, r⟩
/-! signs that are put -/
theorem cmp0 (a : Int64) : lg_cmp a 0 = 0 ↔ a = 0 := by
  unfold lg_cmp
  by_cases e : a = 0
  · subst e; decide
  · by_cases z : a > 0
    · rw [if_pos z]; exact ⟨fun q => absurd q (by decide), fun q => absurd q e⟩
    · rw [if_neg z, if_neg e]; exact ⟨fun q => absurd q (by decide), fun q => absurd q e⟩
theorem shK_0 {x : Int64} {k : Nat} (hk : k < 7) (h : shK x k = 0) : shK x (k + 1) = 0 := by
  have tb : ∀ k, k < 8 → ((nI (8 * k)).toInt64.toUInt64 &&& Int64.toUInt64 63) = UInt64.ofNat (8 * k) ∧ (UInt64.ofNat (8 * k)).toNat % 64 = 8 * k := by decide +kernel
  unfold shK at h ⊢
  rw [(tb k (by omega)).1] at h
  rw [(tb (k + 1) (by omega)).1]
  have h1 : x.toUInt64 >>> UInt64.ofNat (8 * k) = 0 := congrArg Int64.toUInt64 h
  have h2 : x.toUInt64 >>> UInt64.ofNat (8 * (k + 1)) = 0 := by
    apply UInt64.toNat_inj.mp
    have := congrArg UInt64.toNat h1
    rw [UInt64.toNat_shiftRight, (tb k (by omega)).2] at this
    rw [UInt64.toNat_shiftRight, (tb (k + 1) (by omega)).2, show 8 * (k + 1) = 8 * k + 8 by omega, Nat.shiftRight_add, this]
    rfl
  rw [h2]; rfl
theorem shK_up {x : Int64} : ∀ d k, k + d < 8 → shK x k = 0 → shK x (k + d) = 0 := by
  intro d
  induction d with
  | zero => intro k _ h; exact h
  | succ d ih => intro k hk h; exact shK_0 (k := k + d) (by omega) (ih k (by omega) h)
theorem chK_0 {x : Int64} {k : Nat} (h : shK x k = 0) : chK x k = 0 := by unfold chK; rw [h]; decide
theorem badS_up {x : Int64} : ∀ d k, badS x k = true → badS x (k + d) = true := by
  intro d
  induction d with
  | zero => intro k h; exact h
  | succ d ih => intro k h; show (badS x (k + d) || _) = true; rw [ih k h]; rfl
theorem enK_t {x : Int64} {k : Nat} (h0 : 0 < k) (h : shK x k = 0) : enK x k = true := by
  unfold enK; rw [(cmp0 _).mpr h]; simp; omega
theorem enK_f {x : Int64} {k : Nat} (h : k = 0 ∨ shK x k ≠ 0) : enK x k = false := by
  unfold enK
  rcases h with h | h
  · simp [h]
  · have : ¬ lg_cmp (shK x k) 0 = 0 := fun z => h ((cmp0 _).mp z)
    simp [this]
theorem si_bad (x : Int64) : ∀ u i, i + u = 8 → badS x i = false → manS x i = i → (∀ k, k < i → inB (chK x k) 33 126 = true) → (badS x 8 = true ∧ siN x u i = 0) ∨ (badS x 8 = false ∧ manS x 8 = siN x u i ∧ 0 < siN x u i) := by
  intro u
  induction u with
  | zero =>
    intro i hi hb hm hk
    have e : i = 8 := by omega
    subst e
    exact Or.inr ⟨hb, hm, show 0 < 8 by decide⟩
  | succ u ih =>
    intro i hi hb hm hk
    have bad1 : enK x i = false → inB (chK x i) 33 126 = false → badS x 8 = true := by
      intro a b
      have h1 : badS x (i + 1) = true := by show (badS x i || (!enK x i && !inB (chK x i) 33 126)) = true; rw [a, b]; simp
      have := badS_up (8 - (i + 1)) (i + 1) h1
      rw [show i + 1 + (8 - (i + 1)) = 8 by omega] at this
      exact this
    unfold siN
    by_cases z0 : chK x i = 0
    · rw [if_pos z0]
      have nb : inB (chK x i) 33 126 = false := by rw [z0]; decide
      by_cases zs : shK x i = 0
      · rw [if_pos ((cmp0 _).mpr zs)]
        by_cases i0 : i = 0
        · subst i0; exact Or.inl ⟨bad1 (enK_f (Or.inl rfl)) nb, rfl⟩
        · have up : ∀ d, i + d ≤ 8 → badS x (i + d) = false ∧ manS x (i + d) = i := by
            intro d
            induction d with
            | zero => intro _; exact ⟨hb, hm⟩
            | succ d ih2 =>
              intro hd
              obtain ⟨a, b⟩ := ih2 (by omega)
              have en := enK_t (x := x) (k := i + d) (by omega) (shK_up d i (by omega) zs)
              refine ⟨?_, ?_⟩
              · show (badS x (i + d) || (!enK x (i + d) && !inB (chK x (i + d)) 33 126)) = false
                rw [a, en]; rfl
              · show manS x (i + d) + (if enK x (i + d) = true then 0 else 1) = i
                rw [en, b, if_pos rfl, Nat.add_zero]
          obtain ⟨a, b⟩ := up (8 - i) (by omega)
          rw [show i + (8 - i) = 8 by omega] at a b
          exact Or.inr ⟨a, b, by omega⟩
      · rw [if_neg (fun q => zs ((cmp0 _).mp q))]
        exact Or.inl ⟨bad1 (enK_f (Or.inr zs)) nb, rfl⟩
    · rw [if_neg z0]
      have zs : shK x i ≠ 0 := fun q => z0 (chK_0 q)
      by_cases y1 : chK x i < 33
      · rw [if_pos y1]
        exact Or.inl ⟨bad1 (enK_f (Or.inr zs)) (inB_f.mpr fun q => q.1 y1), rfl⟩
      · rw [if_neg y1]
        by_cases y2 : chK x i ≤ 126
        · rw [if_pos y2]
          have yb : inB (chK x i) 33 126 = true := inB_t.mpr ⟨y1, Int32.not_lt.mpr y2⟩
          refine ih (i + 1) (by omega) ?_ ?_ (fun k hk2 => ?_)
          · show (badS x i || (!enK x i && !inB (chK x i) 33 126)) = false
            rw [hb, yb]; simp
          · show manS x i + (if enK x i = true then 0 else 1) = i + 1
            rw [hm, enK_f (Or.inr zs)]; rfl
          · by_cases e : k = i
            · rw [e]; exact yb
            · exact hk k (by omega)
        · rw [if_neg y2]
          exact Or.inl ⟨bad1 (enK_f (Or.inr zs)) (inB_f.mpr fun q => q.2 (Int32.not_le.mp y2)), rfl⟩
theorem put_eq {x : Int64} {len : Nat} : (siN x 8 0 = 0 ∧ putE x len = -2) ∨ (¬ siN x 8 0 = 0 ∧ 80 < len + siN x 8 0 ∧ putE x len = -4) ∨ (¬ siN x 8 0 = 0 ∧ len + siN x 8 0 ≤ 80 ∧ putE x len = 0 ∧ manS x 8 = siN x 8 0) := by
  unfold putE
  rcases si_bad x 8 0 rfl rfl rfl (fun k hk => absurd hk (Nat.not_lt_zero _)) with ⟨a, b⟩ | ⟨a, b, c⟩
  · rw [if_pos a]; exact Or.inl ⟨b, rfl⟩
  · rw [if_neg (by rw [a]; decide), b]
    by_cases z : len + siN x 8 0 ≤ 80
    · rw [if_pos z]; exact Or.inr (Or.inr ⟨by omega, z, rfl, rfl⟩)
    · rw [if_neg z]; exact Or.inr (Or.inl ⟨by omega, by omega, rfl⟩)
theorem put_row {b b' : Nat → Int32} {x : Int64} {len n : Nat} (e : ∀ j, j < len → b j = b' j) : ∀ j, j < len + n → ptP b x len n n j = putP b' x len n n j := by
  intro j hj
  rw [ptP_ok n (Nat.le_refl _)]
  unfold putP
  by_cases z : len ≤ j
  · rw [if_pos ⟨z, hj⟩, if_pos (by omega), show len + n - 1 - j = n - (j - len) - 1 by omega]
  · rw [if_neg (by omega), if_neg (by omega)]; exact e j (by omega)
theorem put_ch {b : Nat → Int32} {x : Int64} {len : Nat} (h : chOk b len) : chOk (ptP b x len (siN x 8 0) (siN x 8 0)) (len + siN x 8 0) := by
  intro j hj
  rw [ptP_ok _ (Nat.le_refl _)]
  by_cases z : len ≤ j
  · rw [if_pos ⟨z, hj⟩]
    exact inB_sm (siN_ok x 8 0 _ (Nat.zero_le _) (by omega))
  · rw [if_neg (by omega)]; exact h j (by omega)
end
section
/-! the relation of the two objects, and every call's part in it -/
def Sg (b : Nat → Int32) (j : Nat) : Nat → Int32 := fun i => b (140 * j + i)
def RelT (C M : MS) (len : Nat) : Prop := len ≤ 80 ∧ C 10 1 = nI len ∧ M 7 0 = nI len ∧ (∀ j, j < len → C 12 j = M 6 j) ∧ chOk (C 12) len
def RelP (C : MS) (pi : Nat → Nat) (M : MS) (d : Nat) : Prop := piOk pi ∧ d ≤ 6 ∧ C 10 0 = nI d ∧ M 3 0 = nI d
def RelH (C : MS) (pi : Nat → Nat) (M : MS) (d : Nat) : Prop := ∀ j, j < d → Ro (C (pi j)) (Sg (M 2) j)
def RelS (C M : MS) : Prop := ∀ j, j < 2 → (M 5 j = 0 ∧ C 11 j = 0) ∨ (M 5 j = 1 ∧ C 11 j = 1 ∧ Ro (C (8 + j)) (Sg (M 4) j))
def Rel (C : MS) (pi : Nat → Nat) (M : MS) (d len : Nat) : Prop := RelP C pi M d ∧ RelT C M len ∧ Ro (C 0) (M 0) ∧ (∀ k, k < 10 → goOk (C k)) ∧ RelH C pi M d ∧ RelS C M
def RelE (C : MS) (pi : Nat → Nat) (M : MS) : Prop := ∃ d len, Rel C pi M d len
section R8
variable {C C1 : MS} {pi pi1 : Nat → Nat} {M M1 : MS} {d len : Nat} {r r2 : Int32}
theorem Rel.cM (R : Rel C pi M d len) (e0 : M1 0 = M 0) (e2 : M1 2 = M 2) (e3 : M1 3 0 = M 3 0) (e4 : M1 4 = M 4) (e5 : M1 5 = M 5) (e6 : M1 6 = M 6) (e7 : M1 7 0 = M 7 0) : Rel C pi M1 d len := by
  obtain ⟨⟨p1, p2, p3, p4⟩, ⟨t1, t2, t3, t4, t5⟩, h0, hg, hh, hs⟩ := R
  refine ⟨⟨p1, p2, p3, by rw [e3]; exact p4⟩, ⟨t1, t2, by rw [e7]; exact t3, by rw [e6]; exact t4, t5⟩, by rw [e0]; exact h0, hg, ?_, ?_⟩
  · unfold RelH; rw [e2]; exact hh
  · unfold RelS; rw [e4, e5]; exact hs
theorem Rel.cC (R : Rel C pi M d len) (e : ∀ a, a < 10 → C1 a = C a) (e0 : C1 10 0 = C 10 0) (e1 : C1 10 1 = C 10 1) (e11 : C1 11 = C 11) (e12 : C1 12 = C 12) : Rel C1 pi M d len := by
  obtain ⟨⟨p1, p2, p3, p4⟩, ⟨t1, t2, t3, t4, t5⟩, h0, hg, hh, hs⟩ := R
  refine ⟨⟨p1, p2, by rw [e0]; exact p3, p4⟩, ⟨t1, by rw [e1]; exact t2, t3, by rw [e12]; exact t4, by rw [e12]; exact t5⟩, by rw [e 0 (by decide)]; exact h0, fun k hk => by rw [e k hk]; exact hg k hk, fun j hj => ?_, fun j hj => ?_⟩
  · have := p1.1 j (by omega)
    rw [e (pi j) (by omega)]; exact hh j hj
  · rw [e11, e (8 + j) (by omega)]; exact hs j hj
/-- a state is recorded and the present one becomes F, f' -/
theorem Rel.push {F f' : Nat → Int32} {len' : Nat} (R : Rel C pi M d len) (hF : Ro F f') (gF : goOk F)
    (c0 : C1 0 = F) (cd : C1 (pi d) = cpS (C (pi d)) (C 0)) (cr : ∀ a, a < 10 → a ≠ 0 → a ≠ pi d → C1 a = C a) (c11 : C1 11 = C 11) (hk : (d < 6 ∧ C1 10 0 = nI (d + 1) ∧ pi1 = pi) ∨ (¬ d < 6 ∧ C1 10 0 = nI d ∧ pi1 = rot pi))
    (m0 : M1 0 = f') (m2 : M1 2 = knB (M 2) (M 0) d) (m3 : M1 3 0 = nI (knN d)) (m4 : M1 4 = M 4) (m5 : M1 5 = M 5) (T : RelT C1 M1 len') : RelE C1 pi1 M1 := by
  obtain ⟨⟨p1, p2, p3, p4⟩, -, h0, hg, hh, hs⟩ := R
  have pd := p1.1 d (by omega)
  have gC : ∀ k, k < 10 → goOk (C1 k) := by
    intro k hk
    by_cases z0 : k = 0
    · rw [z0, c0]; exact gF
    · by_cases z1 : k = pi d
      · rw [z1, cd]; exact goOk_cpS h0 (hg (pi d) (by omega))
      · rw [cr k hk z0 z1]; exact hg k hk
  have gS : RelS C1 M1 := by
    intro j hj
    rw [m4, m5, c11, cr (8 + j) (by omega) (by omega) (by omega)]; exact hs j hj
  have new : Ro (C1 (pi d)) (M 0) := by rw [cd]; exact h0.cpd _
  have old : ∀ j, j < d → Ro (C1 (pi j)) (Sg (M 2) j) := by
    intro j hj
    have pj := p1.1 j (by omega)
    have ne : pi j ≠ pi d := fun z => by have := p1.2 j d (by omega) (by omega) z; omega
    rw [cr (pi j) (by omega) (by omega) ne]; exact hh j hj
  rcases hk with ⟨hd, k0, rfl⟩ | ⟨hd, k0, rfl⟩
  · have ekn : knN d = d + 1 := by unfold knN; rw [if_neg (by omega)]
    have ekb : knB (M 2) (M 0) d = cp1 (M 2) (M 0) (140 * d) 140 := by unfold knB; rw [if_neg (by omega)]
    refine ⟨d + 1, len', ⟨p1, by omega, k0, by rw [m3, ekn]⟩, T, by rw [c0, m0]; exact hF, gC, fun j hj => ?_, gS⟩
    rw [m2, ekb]
    by_cases z : j = d
    · subst z
      refine new.congr (fun i hi => ?_) (fun _ _ => rfl)
      unfold Sg cp1
      rw [if_pos (by omega), Nat.add_sub_cancel_left]
    · refine (old j (by omega)).congr (fun i hi => ?_) (fun _ _ => rfl)
      unfold Sg cp1
      rw [if_neg (by omega)]
  · have d6 : d = 6 := by omega
    subst d6
    have ekn : knN 6 = 6 := rfl
    have ekb : knB (M 2) (M 0) 6 = cp1 (sh1 (M 2) 700) (M 0) 700 140 := rfl
    refine ⟨6, len', ⟨rot_ok p1, by omega, k0, by rw [m3, ekn]⟩, T, by rw [c0, m0]; exact hF, gC, fun j hj => ?_, gS⟩
    rw [m2, ekb, rot_e (by omega), if_neg (by omega)]
    by_cases z : j = 5
    · subst z
      refine new.congr (fun i hi => ?_) (fun _ _ => rfl)
      unfold Sg cp1
      rw [if_pos (by omega), show 140 * 5 + i - 700 = i by omega]
    · refine (old (j + 1) (by omega)).congr (fun i hi => ?_) (fun _ _ => rfl)
      unfold Sg cp1 sh1
      rw [if_neg (by omega), if_pos (by omega), show 140 + (140 * j + i) = 140 * (j + 1) + i by omega]
/-- a change that isn't one: only the place behind the history was written -/
theorem Rel.stay (R : Rel C pi M d len) (c0 : C1 0 = C 0) (cd : C1 (pi d) = cpS (C (pi d)) (C 0)) (cr : ∀ a, a < 10 → a ≠ 0 → a ≠ pi d → C1 a = C a) (k0 : C1 10 0 = C 10 0) (k1 : C1 10 1 = C 10 1) (c11 : C1 11 = C 11) (c12 : C1 12 = C 12) : RelE C1 pi M := by
  obtain ⟨⟨p1, p2, p3, p4⟩, ⟨t1, t2, t3, t4, t5⟩, h0, hg, hh, hs⟩ := R
  have pd := p1.1 d (by omega)
  refine ⟨d, len, ⟨p1, p2, by rw [k0]; exact p3, p4⟩, ⟨t1, by rw [k1]; exact t2, t3, by rw [c12]; exact t4, by rw [c12]; exact t5⟩, by rw [c0]; exact h0, fun k hk => ?_, fun j hj => ?_, fun j hj => ?_⟩
  · by_cases z0 : k = 0
    · rw [z0, c0]; exact hg 0 (by decide)
    · by_cases z1 : k = pi d
      · rw [z1, cd]; exact goOk_cpS h0 (hg (pi d) (by omega))
      · rw [cr k hk z0 z1]; exact hg k hk
  · have pj := p1.1 j (by omega)
    have ne : pi j ≠ pi d := fun z => by have := p1.2 j d (by omega) (by omega) z; omega
    rw [cr (pi j) (by omega) (by omega) ne]; exact hh j hj
  · rw [c11, cr (8 + j) (by omega) (by omega) (by omega)]; exact hs j hj
theorem prM_rows (p1 : piOk pi) (hd : d ≤ 6) {F : Nat → Int32} : mrow (prM C pi d) 0 F 0 = F ∧ mrow (prM C pi d) 0 F (pi d) = cpS (C (pi d)) (C 0) ∧ ∀ a, a ≠ 0 → a ≠ pi d → mrow (prM C pi d) 0 F a = C a := by
  have pd := p1.1 d (by omega)
  refine ⟨mrow_s _ _ _, ?_, fun a h1 h2 => ?_⟩
  · rw [mrow_n _ (by omega)]; exact mrow_s _ _ _
  · rw [mrow_n _ h1]; exact mrow_n _ h2 _
theorem knM_2 {kn : Nat} : knM M kn 2 = knB (M 2) (M 0) kn := by
  unfold knM; rw [mset_ne _ (by decide), mrow_s]
theorem knM_3 {kn : Nat} : knM M kn 3 0 = nI (knN kn) := by
  unfold knM; exact mset_eq _ _ _ _
theorem Rel.op {F f' : Nat → Int32} {Rc flt v : Int32} (R : Rel C pi M d len) (g : Cg (C 0) Rc F flt v f') (hc : opC C pi d F Rc C1 pi1) (hm : opP flt v f' M d r2 M1) : Rc = r2 ∧ RelE C1 pi1 M1 := by
  obtain ⟨p1, p2, p3, p4⟩ := R.1
  have pd := p1.1 d (by omega)
  obtain ⟨q0, q1, q2⟩ := prM_rows (C := C) (F := F) p1 p2
  rcases g with ⟨g1, g2, g3, g4, g5⟩ | ⟨g1, g2, g3⟩
  · rcases hm with ⟨_, hr, hM⟩ | ⟨z, _⟩
    · refine ⟨by rw [g2, hr], ?_⟩
      have gg : goOk F := by rw [g5]; exact goOk_Mx g4 (R.2.2.2.1 0 (by decide))
      have T : ∀ N : MS, N 10 1 = C 10 1 → N 12 = C 12 → RelT N M1 len := by
        intro N n1 n2
        obtain ⟨t1, t2, t3, t4, t5⟩ := R.2.1
        exact ⟨t1, by rw [n1]; exact t2, by rw [hM, ms0_k _ _ (by decide), knM_k _ _ (by decide) (by decide)]; exact t3, by rw [n2, hM, ms0_k _ _ (by decide), knM_k _ _ (by decide) (by decide)]; exact t4, by rw [n2]; exact t5⟩
      have mk := fun (N : MS) (pj : Nat → Nat) a b c d2 e t => Rel.push (C1 := N) (pi1 := pj) (M1 := M1) (len' := len) R (Ro.of g4 _ g5) gg a b c d2 e (by rw [hM]; rfl) (by rw [hM, ms0_k _ _ (by decide), knM_2]) (by rw [hM, ms0_k _ _ (by decide), knM_3]) (by rw [hM, ms0_k _ _ (by decide), knM_k _ _ (by decide) (by decide)]) (by rw [hM, ms0_k _ _ (by decide), knM_k _ _ (by decide) (by decide)]) t
      rcases hc with ⟨_, hd, hC, hp⟩ | ⟨_, hd, hC, hp⟩ | ⟨z, _⟩
      · have o : ∀ a, a ≠ 10 → C1 a = mrow (prM C pi d) 0 F a := fun a h => by rw [hC, mset_ne _ h]
        refine mk C1 pi1 (by rw [o 0 (by decide)]; exact q0) (by rw [o (pi d) (by omega)]; exact q1) (fun a h1 h2 h3 => by rw [o a (by omega)]; exact q2 a h2 h3) (by rw [o 11 (by decide)]; exact q2 11 (by decide) (by omega)) (Or.inl ⟨hd, by rw [hC]; exact mset_eq _ _ _ _, hp⟩) (T C1 ?_ (by rw [o 12 (by decide)]; exact q2 12 (by decide) (by omega)))
        rw [hC, mset_nj _ (by decide), q2 10 (by decide) (by omega)]
      · refine mk C1 pi1 (by rw [hC]; exact q0) (by rw [hC]; exact q1) (fun a h1 h2 h3 => by rw [hC]; exact q2 a h2 h3) (by rw [hC]; exact q2 11 (by decide) (by omega)) (Or.inr ⟨hd, by rw [hC, q2 10 (by decide) (by omega)]; exact p3, hp⟩) (T C1 (by rw [hC, q2 10 (by decide) (by omega)]) (by rw [hC]; exact q2 12 (by decide) (by omega)))
      · exact absurd (by rw [g2]; exact g3) z
    · exact absurd g1 z
  · have n0 : ¬ 0 ≤ Rc := by rw [g2]; exact Int32.lt_nle g1
    rcases hm with ⟨z, _⟩ | ⟨_, hr, hM⟩
    · rw [z] at g1; exact absurd g1 (by decide)
    · refine ⟨by rw [g2, hr], ?_⟩
      rcases hc with ⟨z, _⟩ | ⟨z, _⟩ | ⟨_, hC, hp⟩
      · exact absurd z n0
      · exact absurd z n0
      · rw [hM, hp]
        exact R.stay (by rw [hC, q0]; exact g3) (by rw [hC]; exact q1) (fun a h1 h2 h3 => by rw [hC]; exact q2 a h2 h3) (by rw [hC, q2 10 (by decide) (by omega)]) (by rw [hC, q2 10 (by decide) (by omega)]) (by rw [hC]; exact q2 11 (by decide) (by omega)) (by rw [hC]; exact q2 12 (by decide) (by omega))
theorem Rel.E (R : Rel C pi M d len) : RelE C pi M := ⟨d, len, R⟩
end R8
end
section
/-! every call keeps the relation and is answered alike: what either side promises, put together -/
section R9
variable {C C1 : MS} {pi pi1 : Nat → Nat} {M M1 : MS} {d len : Nat} {r r2 : Int32}
theorem Rel.ro (R : Rel C pi M d len) : Ro (C 0) (M 0) := R.2.2.1
theorem Rel.g0 (R : Rel C pi M d len) : goOk (C 0) := R.2.2.2.1 0 (by decide)
theorem Rel.hh (R : Rel C pi M d len) : ∀ j, j < d → Wk (C (pi j)) ∧ goOk (C (pi j)) := fun j hj => by
  have p := R.1.1.1 j (by have := R.1.2.1; omega)
  exact ⟨(R.2.2.2.2.1 j hj).W, R.2.2.2.1 (pi j) (by omega)⟩
theorem Rel.sl (R : Rel C pi M d len) : ∀ j, j < 2 → C 11 j ≠ 0 → Wk (C (8 + j)) ∧ goOk (C (8 + j)) := fun j hj h => by
  rcases R.2.2.2.2.2 j hj with ⟨_, z⟩ | ⟨_, _, z⟩
  · exact absurd z h
  · exact ⟨z.W, R.2.2.2.1 (8 + j) (by omega)⟩
theorem Rel.z5 (R : Rel C pi M d len) : ∀ i, i < 2 → M 5 i = 0 ∨ M 5 i = 1 := fun j hj => by
  rcases R.2.2.2.2.2 j hj with ⟨z, _⟩ | ⟨z, _⟩
  · exact Or.inl z
  · exact Or.inr z
theorem rel_set (R : Rel C pi M d len) {x v : Int32} (hc : r = rsR (C 0) x v ∧ opC C pi d (rsF (C 0) x v) (rsR (C 0) x v) C1 pi1) (hm : opP (setE x v) (M 0 (ix x)) (upd (M 0) (ix x) v) M d r2 M1) : r = r2 ∧ RelE C1 pi1 M1 := by
  obtain ⟨a, b⟩ := R.op (Cg_set R.ro x v) hc.2 hm
  exact ⟨hc.1.trans a, b⟩
theorem rel_hang (R : Rel C pi M d len) {x y z : Int32} (hc : r = acR (C 0) x y z ∧ opC C pi d (acF (C 0) x y z) (acR (C 0) x y z) C1 pi1) (hm : opP (hangR (M 0) x y z) (nI (cn (M 0))) (newC (M 0) (cn (M 0)) x y z) M d r2 M1) : r = r2 ∧ RelE C1 pi1 M1 := by
  obtain ⟨a, b⟩ := R.op (Cg_hang R.ro x y z) hc.2 hm
  exact ⟨hc.1.trans a, b⟩
theorem rel_ladder (R : Rel C pi M d len) {x : Int32} (hc : r = alR (C 0) x ∧ opC C pi d (alF (C 0) x) (alR (C 0) x) C1 pi1) (hm : opP (lddR (M 0) x) (nI (ln (M 0))) (upd (upd (M 0) (8 + ln (M 0)) x) 6 (nI (ln (M 0) + 1))) M d r2 M1) : r = r2 ∧ RelE C1 pi1 M1 := by
  obtain ⟨a, b⟩ := R.op (Cg_lad R.ro x) hc.2 hm
  exact ⟨hc.1.trans a, b⟩
theorem rel_screw (R : Rel C pi M d len) {x t : Int32} (hc : r = tsR (C 0) x t ∧ opC C pi d (tsF (C 0) x t) (tsR (C 0) x t) C1 pi1) (hm : opP (scE (M 0) x t) (M 0 (12 + 8 * ix x + 3) + t + 20) (upd (M 0) (12 + 8 * ix x + 3) (M 0 (12 + 8 * ix x + 3) + t)) M d r2 M1) : r = r2 ∧ RelE C1 pi1 M1 := by
  obtain ⟨a, b⟩ := R.op (Cg_scr R.ro x t) hc.2 hm
  exact ⟨hc.1.trans a, b⟩
theorem rel_pass (R : Rel C pi M d len) {x : Int32} (hc : r = psR (C 0) x ∧ opC C pi d (psF (C 0) x) (psR (C 0) x) C1 pi1) (hm : opP (passR (M 0) x) (stV (pasF (M 0) (ix x))) (pasF (M 0) (ix x)) M d r2 M1) : r = r2 ∧ RelE C1 pi1 M1 := by
  obtain ⟨a, b⟩ := R.op (Cg_pass R.ro x) hc.2 hm
  exact ⟨hc.1.trans a, b⟩
theorem rel_change (R : Rel C pi M d len) {x : Int32} (hc : r = ccR (C 0) x ∧ opC C pi d (ccF (C 0) x) (ccR (C 0) x) C1 pi1) (hm : opP (chE x) (nI (cn (M 0)) - stV (chgA (M 0) x (cn (M 0)))) (chgA (M 0) x (cn (M 0))) M d r2 M1) : r = r2 ∧ RelE C1 pi1 M1 := by
  obtain ⟨a, b⟩ := R.op (Cg_chg R.ro x) hc.2 hm
  exact ⟨hc.1.trans a, b⟩
/-! beats -/
theorem Rel.rw (R : Rel C pi M d len) (L : Nat) (w : Nat → Int32) : Rel (rwM C L w) pi M d len :=
  R.cC (fun a ha => rwM_ne (by omega) (by omega)) (rwM_o (by decide)) (rwM_o (by decide)) (rwM_ne (by decide) (by decide)) (rwM_ne (by decide) (by decide))
theorem Rel.lo (R : Rel C pi M d len) (n : Nat) (x : Int32) (b : Bool) (k : Nat) : Rel C pi (loM M n x b k) d len :=
  R.cM (loM_k _ _ _ _ _ (by decide) (by decide)) (loM_k _ _ _ _ _ (by decide) (by decide)) (by rw [loM_k _ _ _ _ _ (by decide) (by decide)]) (loM_k _ _ _ _ _ (by decide) (by decide)) (loM_k _ _ _ _ _ (by decide) (by decide)) (loM_k _ _ _ _ _ (by decide) (by decide)) (by rw [loM_k _ _ _ _ _ (by decide) (by decide)])
theorem loR_lt {x : Int32} {L : Nat} (h : x < 0) : loR x L = -2 := if_neg (Int32.lt_nle h)
theorem loR_n {x : Int32} {L : Nat} (h : ¬ x < 0) : loR x L = if L = 0 then -5 else 0 := if_pos (Int32.nlt_le h)
theorem rel_round (R : Rel C pi M d len) {x : Int32}
    (hc : (x < 0 ∧ r = -2 ∧ C1 = C ∧ pi1 = pi) ∨ (¬ x < 0 ∧ chL x (cn (C 0)) = 0 ∧ r = -5 ∧ C1 = rwM C (chL x (cn (C 0))) (chW (C 14) x (cn (C 0))) ∧ pi1 = pi) ∨ (¬ x < 0 ∧ ¬ chL x (cn (C 0)) = 0 ∧ r = bwR (C 0) (chW (C 14) x (cn (C 0))) (chL x (cn (C 0))) ∧ opC (rwM C (chL x (cn (C 0))) (chW (C 14) x (cn (C 0)))) pi d (bwF (C 0) (chW (C 14) x (cn (C 0))) (chL x (cn (C 0)))) (bwR (C 0) (chW (C 14) x (cn (C 0))) (chL x (cn (C 0)))) C1 pi1))
    (hm : opP (loR x (loL (cn (M 0)) x false (M 8) (cn (M 0)))) (miV (M 0) (loN (cn (M 0)) x false (M 8) (cn (M 0))) (loL (cn (M 0)) x false (M 8) (cn (M 0)))) (goFF (M 0) (loN (cn (M 0)) x false (M 8) (cn (M 0))) (loL (cn (M 0)) x false (M 8) (cn (M 0)))) (loM M (cn (M 0)) x false (cn (M 0))) d r2 M1) : r = r2 ∧ RelE C1 pi1 M1 := by
  obtain ⟨e1, e2⟩ := ch_lo x (cn (M 0)) (C 14) (M 8) (cn (M 0))
  have g := chW_gd R.ro.W (C 14) x
  have hL := chL_le x (cn (M 0))
  have h16 := R.ro.1.W.2.1
  rw [R.ro.ec] at hc g
  rw [← e1] at hm
  rcases hc with ⟨h1, h2, h3, h4⟩ | ⟨h1, h2, h3, h4, h5⟩ | ⟨h1, h2, h3, h4⟩
  · rw [loR_lt h1] at hm
    rcases hm with ⟨z, _⟩ | ⟨_, hr, hM⟩
    · exact absurd z (by decide)
    · rw [h2, hr, h3, h4, hM]; exact ⟨rfl, (R.lo _ _ _ _).E⟩
  · rw [loR_n h1, if_pos h2] at hm
    rcases hm with ⟨z, _⟩ | ⟨_, hr, hM⟩
    · exact absurd z (by decide)
    · rw [h3, hr, h4, h5, hM]; exact ⟨rfl, ((R.rw _ _).lo _ _ _ _).E⟩
  · rw [loR_n h1, if_neg h2] at hm
    have g2 := (gdN_Ro R.ro).mp g
    have key := Cg_bw R.ro g2 (by omega)
    rw [miV_cong _ e2, goFF_congr _ e2] at key
    have b0 : rwM C (chL x (cn (M 0))) (chW (C 14) x (cn (M 0))) 0 = C 0 := rwM_ne (by decide) (by decide)
    rw [← b0] at key
    rw [← b0] at h3 h4
    obtain ⟨a, b⟩ := ((R.rw (chL x (cn (M 0))) (chW (C 14) x (cn (M 0)))).lo (cn (M 0)) x false (cn (M 0))).op key (by rw [b0] at h4 ⊢; exact h4) hm
    exact ⟨h3.trans a, b⟩
theorem rel_takes (R : Rel C pi M d len) {x : Int32}
    (hc : ((x < 0 ∧ r = -2 ∧ C1 = C) ∨ (¬ x < 0 ∧ chL x (cn (C 0)) = 0 ∧ r = -5 ∧ C1 = rwM C (chL x (cn (C 0))) (chW (C 14) x (cn (C 0)))) ∨ (¬ x < 0 ∧ ¬ chL x (cn (C 0)) = 0 ∧ r = moN (C 0) (chW (C 14) x (cn (C 0))) (chL x (cn (C 0))) ∧ C1 = rwM C (chL x (cn (C 0))) (chW (C 14) x (cn (C 0))))) ∧ pi1 = pi)
    (hm : r2 = (if loR x (loL (cn (M 0)) x false (M 8) (cn (M 0))) = 0 then miV (M 0) (loN (cn (M 0)) x false (M 8) (cn (M 0))) (loL (cn (M 0)) x false (M 8) (cn (M 0))) else loR x (loL (cn (M 0)) x false (M 8) (cn (M 0)))) ∧ M1 = loM M (cn (M 0)) x false (cn (M 0))) : r = r2 ∧ RelE C1 pi1 M1 := by
  obtain ⟨e1, e2⟩ := ch_lo x (cn (M 0)) (C 14) (M 8) (cn (M 0))
  have g := chW_gd R.ro.W (C 14) x
  have hL := chL_le x (cn (M 0))
  have h16 := R.ro.1.W.2.1
  obtain ⟨hc, hp⟩ := hc
  obtain ⟨hm, hM⟩ := hm
  rw [R.ro.ec] at hc g
  rw [← e1] at hm
  subst hp; subst hM
  rcases hc with ⟨h1, h2, h3⟩ | ⟨h1, h2, h3, h4⟩ | ⟨h1, h2, h3, h4⟩
  · rw [loR_lt h1, if_neg (by decide)] at hm
    rw [h2, hm, h3]; exact ⟨rfl, (R.lo _ _ _ _).E⟩
  · rw [loR_n h1, if_pos h2, if_neg (by decide)] at hm
    rw [h3, hm, h4]; exact ⟨rfl, ((R.rw _ _).lo _ _ _ _).E⟩
  · rw [loR_n h1, if_neg h2, if_pos rfl, ← miV_cong _ e2] at hm
    rw [h3, hm, h4, (mo_eq R.ro ((gdN_Ro R.ro).mp g) (by omega)).1]; exact ⟨rfl, ((R.rw _ _).lo _ _ _ _).E⟩
theorem rel_way (R : Rel C pi M d len) {x : Int32}
    (hc : ((x < 0 ∧ r = -2 ∧ C1 = C) ∨ (¬ x < 0 ∧ chL x (cn (C 0)) = 0 ∧ r = -5 ∧ C1 = rwM C (chL x (cn (C 0))) (chW (C 14) x (cn (C 0)))) ∨ (¬ x < 0 ∧ ¬ chL x (cn (C 0)) = 0 ∧ r = wayC (moN (C 0) (chW (C 14) x (cn (C 0))) (chL x (cn (C 0)))) (moN (C 0) (trN (chW (C 14) x (cn (C 0))) (chL x (cn (C 0))) (chL x (cn (C 0)) / 2)) (chL x (cn (C 0)))) ∧ C1 = rwM C (chL x (cn (C 0))) (trN (chW (C 14) x (cn (C 0))) (chL x (cn (C 0))) (chL x (cn (C 0)) / 2)))) ∧ pi1 = pi)
    (hm : r2 = (if loR x (loL (cn (M 0)) x false (M 8) (cn (M 0))) = 0 then wayR (miV (M 0) (loN (cn (M 0)) x false (M 8) (cn (M 0))) (loL (cn (M 0)) x false (M 8) (cn (M 0)))) (miV (M 0) (loN (cn (M 0)) x true (loN (cn (M 0)) x false (M 8) (cn (M 0))) (cn (M 0))) (loL (cn (M 0)) x true (loN (cn (M 0)) x false (M 8) (cn (M 0))) (cn (M 0)))) else loR x (loL (cn (M 0)) x false (M 8) (cn (M 0)))) ∧ M1 0 = M 0 ∧ ∀ k, k ≠ 8 → k ≠ 9 → M1 k = M k) : r = r2 ∧ RelE C1 pi1 M1 := by
  obtain ⟨e1, e2⟩ := ch_lo x (cn (M 0)) (C 14) (M 8) (cn (M 0))
  have g := chW_gd R.ro.W (C 14) x
  have hL := chL_le x (cn (M 0))
  have h16 := R.ro.1.W.2.1
  obtain ⟨hc, hp⟩ := hc
  obtain ⟨hm, hM0, hM⟩ := hm
  obtain ⟨v1, v2⟩ := lo_rev x (cn (M 0)) (M 8) (loN (cn (M 0)) x false (M 8) (cn (M 0))) (cn (M 0)) (Nat.le_refl _)
  rw [Nat.sub_self, show loL (cn (M 0)) x false (M 8) 0 = 0 from rfl, Nat.add_zero] at v1
  rw [v1] at v2 hm
  rw [R.ro.ec] at hc g
  rw [← e1] at hm v2
  subst hp
  have RM : ∀ {C' : MS}, Rel C' pi1 M d len → Rel C' pi1 M1 d len := fun R => R.cM hM0 (hM 2 (by decide) (by decide)) (by rw [hM 3 (by decide) (by decide)]) (hM 4 (by decide) (by decide)) (hM 5 (by decide) (by decide)) (hM 6 (by decide) (by decide)) (by rw [hM 7 (by decide) (by decide)])
  rcases hc with ⟨h1, h2, h3⟩ | ⟨h1, h2, h3, h4⟩ | ⟨h1, h2, h3, h4⟩
  · rw [loR_lt h1, if_neg (by decide)] at hm
    rw [h2, hm, h3]; exact ⟨rfl, (RM R).E⟩
  · rw [loR_n h1, if_pos h2, if_neg (by decide)] at hm
    rw [h3, hm, h4]; exact ⟨rfl, (RM (R.rw _ _)).E⟩
  · rw [loR_n h1, if_neg h2, if_pos rfl, ← miV_cong _ e2] at hm
    have g2 := (gdN_Ro R.ro).mp g
    obtain ⟨a1, t1, b1, c1⟩ := mo_eq R.ro g2 (by omega)
    obtain ⟨a2, t2, b2, c2⟩ := mo_eq R.ro (trN_gd g2) (by omega)
    have e3 : miV (M 0) (loN (cn (M 0)) x true (loN (cn (M 0)) x false (M 8) (cn (M 0))) (cn (M 0))) (chL x (cn (M 0))) = miV (M 0) (trN (chW (C 14) x (cn (M 0))) (chL x (cn (M 0))) (chL x (cn (M 0)) / 2)) (chL x (cn (M 0))) := by
      refine miV_cong _ (fun j hj => ?_)
      rw [trN_rev _ _ hj, v2 j hj, e2 _ (by omega)]
    rw [e3] at hm
    rw [h3, hm, h4, a1, a2, c1, c2, way_eq t1 t2 b1 b2]; exact ⟨rfl, (RM (R.rw _ _)).E⟩
/-! answers -/
theorem rel_of (R : Rel C pi M d len) {x w : Int32} (hc : r = ofR (C 0) x w ∧ C1 = C ∧ pi1 = pi) (hm : r2 = ofR (M 0) x w ∧ M1 = M) : r = r2 ∧ RelE C1 pi1 M1 := by
  obtain ⟨a, rfl, rfl⟩ := hc
  obtain ⟨b, rfl⟩ := hm
  exact ⟨by rw [a, b, of_eq R.ro], R.E⟩
theorem rel_ofLadder (R : Rel C pi M d len) {x : Int32} (hc : r = lofR (C 0) x ∧ C1 = C ∧ pi1 = pi) (hm : r2 = lofR (M 0) x ∧ M1 = M) : r = r2 ∧ RelE C1 pi1 M1 := by
  obtain ⟨a, rfl, rfl⟩ := hc
  obtain ⟨b, rfl⟩ := hm
  exact ⟨by rw [a, b, lof_eq R.ro], R.E⟩
theorem rel_count (R : Rel C pi M d len) {w : Int32} (hc : r = cntC (C 0) (C 10 1) (C 10 0) w ∧ C1 = C ∧ pi1 = pi) (hm : r2 = cntR (M 0) (M 7 0) (M 3 0) w ∧ M1 = M) : r = r2 ∧ RelE C1 pi1 M1 := by
  obtain ⟨a, rfl, rfl⟩ := hc
  obtain ⟨b, rfl⟩ := hm
  exact ⟨by rw [a, b, cnt_eq R.ro, R.2.1.2.1, R.2.1.2.2.1, R.1.2.2.1, R.1.2.2.2], R.E⟩
theorem rel_lasts (R : Rel C pi M d len) {x : Int32} (hc : r = (if isCb (C 0) x = true then nI (duS (C 0) (ix x)) else -1) ∧ C1 = C ∧ pi1 = pi) (hm : r2 = (if isCb (M 0) x = true then nI (duS (M 0) (ix x)) else -1) ∧ ∀ k, k ≠ 1 → M1 k = M k) : r = r2 ∧ RelE C1 pi1 M1 := by
  obtain ⟨a, rfl, rfl⟩ := hc
  obtain ⟨b, h⟩ := hm
  refine ⟨?_, (R.cM (h 0 (by decide)) (h 2 (by decide)) (by rw [h 3 (by decide)]) (h 4 (by decide)) (h 5 (by decide)) (h 6 (by decide)) (by rw [h 7 (by decide)])).E⟩
  rw [a, b, Ro_isC R.ro]
  by_cases z : isCb (M 0) x = true
  · obtain ⟨i, hi, rfl⟩ := (isC_iff R.ro.1.W x).mp z
    have := R.ro.1.W.2.1
    rw [if_pos z, if_pos z, ix_nI (by omega), Ro_duS R.ro hi]
  · rw [if_neg z, if_neg z]
theorem Rel.la (R : Rel C pi M d len) (w : Nat → Int32) : Rel (mrow C 15 w) pi M d len :=
  R.cC (fun a ha => mrow_n C (k := 15) (a := a) (by omega) w) (by rw [mrow_n C (k := 15) (a := 10) (by decide) w]) (by rw [mrow_n C (k := 15) (a := 10) (by decide) w]) (mrow_n C (k := 15) (a := 11) (by decide) w) (mrow_n C (k := 15) (a := 12) (by decide) w)
theorem rel_needs (R : Rel C pi M d len) {x : Int32} (hc : r = neC (C 0) (cn (C 0)) x (cn (C 0)) ∧ (∃ w, C1 = mrow C 15 w) ∧ pi1 = pi) (hm : r2 = needN (fun i => nI (duS (M 0) i)) (cn (M 0)) x (cn (M 0)) ∧ ∀ k, k ≠ 1 → k ≠ 10 → M1 k = M k) : r = r2 ∧ RelE C1 pi1 M1 := by
  obtain ⟨a, ⟨w, rfl⟩, rfl⟩ := hc
  obtain ⟨b, h⟩ := hm
  refine ⟨?_, ((R.la w).cM (h 0 (by decide) (by decide)) (h 2 (by decide) (by decide)) (by rw [h 3 (by decide) (by decide)]) (h 4 (by decide) (by decide)) (h 5 (by decide) (by decide)) (h 6 (by decide) (by decide)) (by rw [h 7 (by decide) (by decide)])).E⟩
  rw [a, b, R.ro.ec, ne_eq R.ro]
theorem rel_ladderFor (R : Rel C pi M d len) (hc : r = lfC (C 0) ∧ C1 = C ∧ pi1 = pi) (hm : r2 = (if ln (M 0) = 4 then -4 else mostN (M 0) (cn (M 0))) ∧ M1 = M) : r = r2 ∧ RelE C1 pi1 M1 := by
  obtain ⟨a, rfl, rfl⟩ := hc
  obtain ⟨b, rfl⟩ := hm
  exact ⟨by rw [a, b, lf_eq R.ro], R.E⟩
/-! texts -/
theorem Rel.cT {C' M' : MS} {len' : Nat} (R : Rel C pi M d len) (e : ∀ a, a < 10 → C' a = C a) (e0 : C' 10 0 = C 10 0) (e11 : C' 11 = C 11) (m0 : M' 0 = M 0) (m2 : M' 2 = M 2) (m3 : M' 3 0 = M 3 0) (m4 : M' 4 = M 4) (m5 : M' 5 = M 5) (T : RelT C' M' len') : RelE C' pi M' := by
  obtain ⟨⟨p1, p2, p3, p4⟩, -, h0, hg, hh, hs⟩ := R
  refine ⟨d, len', ⟨p1, p2, by rw [e0]; exact p3, by rw [m3]; exact p4⟩, T, by rw [e 0 (by decide), m0]; exact h0, fun k hk => by rw [e k hk]; exact hg k hk, fun j hj => ?_, fun j hj => ?_⟩
  · have := p1.1 j (by omega)
    rw [e (pi j) (by omega), m2]; exact hh j hj
  · rw [e11, m5, m4, e (8 + j) (by omega)]; exact hs j hj
theorem rel_put (R : Rel C pi M d len) {x : Int64}
    (hc : ((siN x 8 0 = 0 ∧ r = -2 ∧ C1 = C) ∨ (¬ siN x 8 0 = 0 ∧ 80 < len + siN x 8 0 ∧ r = -4 ∧ C1 = C) ∨ (¬ siN x 8 0 = 0 ∧ len + siN x 8 0 ≤ 80 ∧ r = nI (len + siN x 8 0) ∧ C1 = sgM C (len + siN x 8 0) (ptP (C 12) x len (siN x 8 0) (siN x 8 0)))) ∧ pi1 = pi)
    (hm : (putE x len ≠ 0 ∧ r2 = putE x len ∧ M1 = M) ∨ (putE x len = 0 ∧ r2 = nI (len + manS x 8) ∧ M1 = mset (mrow M 6 (putP (M 6) x len (manS x 8) (manS x 8))) 7 0 (nI (len + manS x 8)))) : r = r2 ∧ RelE C1 pi1 M1 := by
  obtain ⟨hc, rfl⟩ := hc
  obtain ⟨t1, t2, t3, t4, t5⟩ := R.2.1
  rcases put_eq (x := x) (len := len) with ⟨a, b⟩ | ⟨a, a2, b⟩ | ⟨a, a2, b, b2⟩
  · rw [b] at hm
    rcases hm with ⟨_, m1, m2⟩ | ⟨z, _⟩
    · rcases hc with ⟨_, c2, c3⟩ | ⟨z, _⟩ | ⟨z, _⟩
      · rw [c2, c3, m1, m2]; exact ⟨rfl, R.E⟩
      · exact absurd a z
      · exact absurd a z
    · exact absurd z (by decide)
  · rw [b] at hm
    rcases hm with ⟨_, m1, m2⟩ | ⟨z, _⟩
    · rcases hc with ⟨z, _⟩ | ⟨_, _, c2, c3⟩ | ⟨_, z, _⟩
      · exact absurd z a
      · rw [c2, c3, m1, m2]; exact ⟨rfl, R.E⟩
      · omega
    · exact absurd z (by decide)
  · rw [b, b2] at hm
    rcases hm with ⟨z, _⟩ | ⟨_, m1, m2⟩
    · exact absurd rfl z
    · rcases hc with ⟨z, _⟩ | ⟨_, z, _⟩ | ⟨_, _, c2, c3⟩
      · exact absurd z a
      · omega
      · refine ⟨by rw [c2, m1], ?_⟩
        have mk : ∀ k, k ≠ 6 → k ≠ 7 → M1 k = M k := fun k h6 h7 => by rw [m2, mset_ne _ h7, mrow_n _ h6]
        refine R.cT (len' := len + siN x 8 0) (fun k hk => by rw [c3]; exact sgM_ne (by omega) (by omega)) (by rw [c3]; exact sgM_o (by decide)) (by rw [c3]; exact sgM_ne (by decide) (by decide)) (mk 0 (by decide) (by decide)) (mk 2 (by decide) (by decide)) (by rw [mk 3 (by decide) (by decide)]) (mk 4 (by decide) (by decide)) (mk 5 (by decide) (by decide)) ⟨a2, by rw [c3]; exact sgM_1, by rw [m2]; exact mset_eq _ _ _ _, ?_, ?_⟩
        · rw [c3, sgM_12, m2, mset_ne _ (by decide), mrow_s]
          exact put_row t4
        · rw [c3, sgM_12]; exact put_ch t5
theorem rel_wipe (R : Rel C pi M d len) (hc : r = C 10 1 ∧ C1 = mset C 10 1 0 ∧ pi1 = pi) (hm : r2 = M 7 0 ∧ M1 = mset M 7 0 0) : r = r2 ∧ RelE C1 pi1 M1 := by
  obtain ⟨a, rfl, rfl⟩ := hc
  obtain ⟨b, rfl⟩ := hm
  obtain ⟨t1, t2, t3, t4, t5⟩ := R.2.1
  refine ⟨by rw [a, b, t2, t3], ?_⟩
  exact R.cT (len' := 0) (fun k hk => mset_ne _ (by omega) _ _) (mset_nj _ (by decide) _ _) (mset_ne _ (by decide) _ _) (mset_ne _ (by decide) _ _) (mset_ne _ (by decide) _ _) (by rw [mset_ne _ (by decide)]) (mset_ne _ (by decide) _ _) (mset_ne _ (by decide) _ _) ⟨by omega, mset_eq _ _ _ _, mset_eq _ _ _ _, fun j hj => absurd hj (Nat.not_lt_zero _), fun j hj => absurd hj (Nat.not_lt_zero _)⟩
theorem Rel.pf (R : Rel C pi M d len) (hc : Pf C C1) (hm : Pk M M1) : RelE C1 pi M1 := by
  have R1 := R.cM (M1 := M1) (hm 0 (by decide) (by decide) (by decide) (by decide) (by decide) (by decide) (by decide) (by decide)) (hm 2 (by decide) (by decide) (by decide) (by decide) (by decide) (by decide) (by decide) (by decide)) (by rw [hm 3 (by decide) (by decide) (by decide) (by decide) (by decide) (by decide) (by decide) (by decide)]) (hm 4 (by decide) (by decide) (by decide) (by decide) (by decide) (by decide) (by decide) (by decide)) (hm 5 (by decide) (by decide) (by decide) (by decide) (by decide) (by decide) (by decide) (by decide)) (hm 6 (by decide) (by decide) (by decide) (by decide) (by decide) (by decide) (by decide) (by decide)) (by rw [hm 7 (by decide) (by decide) (by decide) (by decide) (by decide) (by decide) (by decide) (by decide)])
  exact (R1.cC (fun a ha => hc.1 a (by omega) (by omega)) (hc.2 0 (by decide) (by decide) (by decide)) (hc.2 1 (by decide) (by decide) (by decide)) (hc.1 11 (by decide) (by decide)) (hc.1 12 (by decide) (by decide))).E
theorem rel_fault (R : Rel C pi M d len) (hc : r = o2i (gF (C 12) len 81 0) ∧ Pf C C1 ∧ pi1 = pi) (hm : r2 = o2i (gF (M 6) len 81 0) ∧ Pk M M1) : r = r2 ∧ RelE C1 pi1 M1 := by
  obtain ⟨a, h, rfl⟩ := hc
  obtain ⟨t1, t2, t3, t4, t5⟩ := R.2.1
  exact ⟨by rw [a, hm.1, gF_cong t4], R.pf h hm.2⟩
theorem gF_le {t : Nat → Int32} : ∀ u p k, p ≤ len → gF t len u p = some k → k ≤ len := by
  intro u
  induction u with
  | zero => intro p k _ h; cases h
  | succ u ih =>
    intro p k hp h
    have pl := rO_place t len p hp
    unfold gF at h
    split at h
    · split at h
      · next hl =>
        split at h
        · exact ih _ _ hl h
        · cases h; omega
      · cases h
    · cases h; omega
theorem gF_6 {t : Nat → Int32} (h80 : len ≤ 80) : o2i (gF t len 81 0) = -6 ↔ gF t len 81 0 = none := by
  have := o2i_ne (o := gF t len 81 0) (fun k hk => by have := gF_le _ _ _ (Nat.zero_le _) hk; omega)
  constructor
  · intro h
    cases e : gF t len 81 0 with
    | none => rfl
    | some k => exact absurd h (this.mpr (by rw [e]; simp))
  · intro h; rw [h]; rfl
theorem rel_carryOut (R : Rel C pi M d len)
    (hc : (¬ o2i (gF (C 12) len 81 0) = -6 ∧ r = -3 ∧ Pf C C1 ∧ pi1 = pi) ∨ (o2i (gF (C 12) len 81 0) = -6 ∧ r = nI (ccO (C 12) len 80 0 (C 0)).1 ∧ coC C pi d (ccO (C 12) len 80 0 (C 0)).2 C1 pi1))
    (hm : (gF (M 6) len 81 0 ≠ none ∧ r2 = -3 ∧ Pk M M1) ∨ (gF (M 6) len 81 0 = none ∧ r2 = nI (cO (M 6) len 81 0 (M 0)).1 ∧ M1 0 = (cO (M 6) len 81 0 (M 0)).2 ∧ M1 7 0 = 0 ∧ M1 2 = knB (M 2) (M 0) d ∧ M1 3 0 = nI (knN d) ∧ M1 4 = M 4 ∧ M1 5 = M 5 ∧ M1 6 = M 6)) : r = r2 ∧ RelE C1 pi1 M1 := by
  obtain ⟨t1, t2, t3, t4, t5⟩ := R.2.1
  obtain ⟨p1, p2, p3, p4⟩ := R.1
  have pd := p1.1 d (by omega)
  rw [← gF_cong t4, ← cO_cong t4] at hm
  rw [gF_6 t1] at hc
  rcases hc with ⟨h1, h2, h3, h4⟩ | ⟨h1, h2, h3⟩
  · rcases hm with ⟨_, m2, m3⟩ | ⟨z, _⟩
    · rw [h2, m2, h4]; exact ⟨rfl, R.pf h3 m3⟩
    · exact absurd z h1
  · rcases hm with ⟨z, _⟩ | ⟨_, m1, m0, m7, m2, m3, m4, m5, m6⟩
    · exact absurd h1 z
    · obtain ⟨k1, k2, k3⟩ := cc_co (T := C 12) t1 81 0 (M 0) (C 0) 0 80 R.ro R.g0 (Or.inl ⟨rfl, rfl⟩) (Nat.zero_le _) (by omega) (by omega) h1
      obtain ⟨c0, cd, cr, c1, ck, cp⟩ := h3
      refine ⟨by rw [h2, m1, k1], R.push (len' := 0) k2 k3 c0 cd (fun a h1 h2 h3 => cr a h2 (by omega) (by omega) h3) (cr 11 (by decide) (by decide) (by decide) (by omega)) ?_ m0 m2 m3 m4 m5 ⟨by omega, c1, m7, fun j hj => absurd hj (Nat.not_lt_zero _), fun j hj => absurd hj (Nat.not_lt_zero _)⟩⟩
      by_cases z : d < 6
      · rw [if_pos z] at ck cp; exact Or.inl ⟨z, ck, cp⟩
      · rw [if_neg z] at ck cp; exact Or.inr ⟨z, ck, cp⟩
/-! undo, slots -/
theorem Rel.back {C' M' : MS} {d' : Nat} {F : Nat → Int32} (R : Rel C pi M d len) (hd' : d' ≤ d) (hF : Ro F (M' 0)) (gF : goOk F) (c0 : C' 0 = F) (cr : ∀ a, a ≠ 0 → a ≠ 10 → C' a = C a) (k0 : C' 10 0 = nI d') (k1 : C' 10 1 = C 10 1) (mr : ∀ a, a ≠ 0 → a ≠ 3 → M' a = M a) (m3 : M' 3 0 = nI d') : RelE C' pi M' := by
  obtain ⟨⟨p1, p2, p3, p4⟩, ⟨t1, t2, t3, t4, t5⟩, h0, hg, hh, hs⟩ := R
  refine ⟨d', len, ⟨p1, by omega, k0, m3⟩, ⟨t1, by rw [k1]; exact t2, by rw [mr 7 (by decide) (by decide)]; exact t3, by rw [cr 12 (by decide) (by decide), mr 6 (by decide) (by decide)]; exact t4, by rw [cr 12 (by decide) (by decide)]; exact t5⟩, by rw [c0]; exact hF, fun k hk => ?_, fun j hj => ?_, fun j hj => ?_⟩
  · by_cases z : k = 0
    · rw [z, c0]; exact gF
    · rw [cr k z (by omega)]; exact hg k hk
  · have := p1.1 j (by omega)
    rw [cr (pi j) (by omega) (by omega), mr 2 (by decide) (by decide)]; exact hh j (by omega)
  · rw [cr 11 (by decide) (by decide), cr (8 + j) (by omega) (by omega), mr 5 (by decide) (by decide), mr 4 (by decide) (by decide)]; exact hs j hj
theorem rel_undo (R : Rel C pi M d len)
    (hc : ((d = 0 ∧ r = -5 ∧ C1 = C) ∨ (0 < d ∧ r = nI (d - 1) ∧ C1 = mrow (mset C 10 0 (nI (d - 1))) 0 (cpS (C 0) (C (pi (d - 1)))))) ∧ pi1 = pi)
    (hm : (d = 0 ∧ r2 = -5 ∧ M1 = M) ∨ (d ≠ 0 ∧ r2 = nI (d - 1) ∧ M1 = mset (mrow M 0 (cp2 (M 0) (M 2) (140 * (d - 1)) 140)) 3 0 (nI (d - 1)))) : r = r2 ∧ RelE C1 pi1 M1 := by
  obtain ⟨hc, rfl⟩ := hc
  rcases hc with ⟨a, b, c⟩ | ⟨a, b, c⟩
  · rcases hm with ⟨_, m1, m2⟩ | ⟨z, _⟩
    · rw [b, c, m1, m2]; exact ⟨rfl, R.E⟩
    · exact absurd a z
  · rcases hm with ⟨z, _⟩ | ⟨_, m1, m2⟩
    · omega
    · refine ⟨by rw [b, m1], ?_⟩
      have rh := R.2.2.2.2.1 (d - 1) (by omega)
      have m0 : M1 0 = cp2 (M 0) (M 2) (140 * (d - 1)) 140 := by rw [m2, mset_ne _ (by decide), mrow_s]
      refine R.back (d' := d - 1) (F := cpS (C 0) (C (pi1 (d - 1)))) (by omega) ?_ (goOk_cpS rh R.g0) (by rw [c, mrow_s]) (fun k h0 h10 => by rw [c, mrow_n _ h0, mset_ne _ h10]) (by rw [c, mrow_n _ (by decide)]; exact mset_eq _ _ _ _) (by rw [c, mrow_n _ (by decide)]; exact mset_nj _ (by decide) _ _) (fun k h0 h3 => by rw [m2, mset_ne _ h3, mrow_n _ h0]) (by rw [m2]; exact mset_eq _ _ _ _)
      rw [m0]
      refine (rh.cpd (C 0)).congr (fun i hi => ?_) (fun _ _ => rfl)
      unfold cp2 Sg
      rw [if_pos hi]
theorem rel_save (R : Rel C pi M d len) {x : Int32}
    (hc : ((inB x 0 1 = false ∧ r = -2 ∧ C1 = C) ∨ (inB x 0 1 = true ∧ r = nI (cn (C 0)) ∧ C1 = mset (mrow C (8 + ix x) (cpS (C (8 + ix x)) (C 0))) 11 (ix x) 1)) ∧ pi1 = pi)
    (hm : (inB x 0 1 = false ∧ r2 = -2 ∧ M1 = M) ∨ (inB x 0 1 = true ∧ r2 = nI (cn (M 0)) ∧ M1 = mset (mrow M 4 (cp1 (M 4) (M 0) (140 * ix x) 140)) 5 (ix x) 1)) : r = r2 ∧ RelE C1 pi1 M1 := by
  obtain ⟨hc, rfl⟩ := hc
  rcases hc with ⟨a, b, c⟩ | ⟨a, b, c⟩
  · rcases hm with ⟨_, m1, m2⟩ | ⟨z, _⟩
    · rw [b, c, m1, m2]; exact ⟨rfl, R.E⟩
    · rw [a] at z; cases z
  · rcases hm with ⟨z, _⟩ | ⟨_, m1, m2⟩
    · rw [a] at z; cases z
    · obtain ⟨i, hi, rfl⟩ := inB_nI (n := 1) (by decide) a
      rw [ix_nI (by omega)] at c m2
      refine ⟨by rw [b, m1, R.ro.ec], ?_⟩
      have cr : ∀ k, k ≠ 8 + i → k ≠ 11 → C1 k = C k := fun k h1 h2 => by rw [c, mset_ne _ h2, mrow_n _ h1]
      have mr : ∀ k, k ≠ 4 → k ≠ 5 → M1 k = M k := fun k h1 h2 => by rw [m2, mset_ne _ h2, mrow_n _ h1]
      have c8 : C1 (8 + i) = cpS (C (8 + i)) (C 0) := by rw [c, mset_ne _ (by omega), mrow_s]
      have m4 : M1 4 = cp1 (M 4) (M 0) (140 * i) 140 := by rw [m2, mset_ne _ (by decide), mrow_s]
      obtain ⟨⟨p1, p2, p3, p4⟩, ⟨t1, t2, t3, t4, t5⟩, h0, hg, hh, hs⟩ := R
      refine ⟨d, len, ⟨p1, p2, by rw [cr 10 (by omega) (by decide)]; exact p3, by rw [mr 3 (by decide) (by decide)]; exact p4⟩, ⟨t1, by rw [cr 10 (by omega) (by decide)]; exact t2, by rw [mr 7 (by decide) (by decide)]; exact t3, by rw [cr 12 (by omega) (by decide), mr 6 (by decide) (by decide)]; exact t4, by rw [cr 12 (by omega) (by decide)]; exact t5⟩, by rw [cr 0 (by omega) (by decide), mr 0 (by decide) (by decide)]; exact h0, fun k hk => ?_, fun j hj => ?_, fun j hj => ?_⟩
      · by_cases z : k = 8 + i
        · rw [z, c8]; exact goOk_cpS h0 (hg (8 + i) (by omega))
        · rw [cr k z (by omega)]; exact hg k hk
      · have := p1.1 j (by omega)
        rw [cr (pi1 j) (by omega) (by omega), mr 2 (by decide) (by decide)]; exact hh j hj
      · by_cases z : j = i
        · subst z
          refine Or.inr ⟨by rw [m2]; exact mset_eq _ _ _ _, by rw [c]; exact mset_eq _ _ _ _, ?_⟩
          rw [c8, m4]
          refine (h0.cpd (C (8 + j))).congr (fun k hk => ?_) (fun _ _ => rfl)
          unfold Sg cp1
          rw [if_pos (by omega), Nat.add_sub_cancel_left]
        · have e5 : M1 5 j = M 5 j := by rw [m2, mset_nj _ z, mrow_n _ (by decide)]
          have e11 : C1 11 j = C 11 j := by rw [c, mset_nj _ z, mrow_n _ (by omega)]
          rw [e5, e11, cr (8 + j) (by omega) (by omega), m4]
          rcases hs j hj with q | ⟨q1, q2, q3⟩
          · exact Or.inl q
          · refine Or.inr ⟨q1, q2, q3.congr (fun k hk => ?_) (fun _ _ => rfl)⟩
            unfold Sg cp1
            rw [if_neg (by omega)]
theorem rel_restore (R : Rel C pi M d len) {x : Int32}
    (hc : (inB x 0 1 = false ∧ r = -2 ∧ C1 = C ∧ pi1 = pi) ∨ (inB x 0 1 = true ∧ C 11 (ix x) = 0 ∧ r = -5 ∧ C1 = C ∧ pi1 = pi) ∨ (inB x 0 1 = true ∧ ¬ C 11 (ix x) = 0 ∧ r = nI (cn (C (8 + ix x))) ∧ opC C pi d (cpS (C 0) (C (8 + ix x))) (nI (cn (C (8 + ix x)))) C1 pi1))
    (hm : (inB x 0 1 = false ∧ r2 = -2 ∧ M1 = M) ∨ (inB x 0 1 = true ∧ M 5 (ix x) = 0 ∧ r2 = -5 ∧ M1 = M) ∨ (inB x 0 1 = true ∧ ¬ M 5 (ix x) = 0 ∧ r2 = M 4 (140 * ix x + 5) ∧ M1 = mrow (knM M d) 0 (cp2 (M 0) (M 4) (140 * ix x) 140))) : r = r2 ∧ RelE C1 pi1 M1 := by
  rcases hc with ⟨a, b, c, e⟩ | ⟨a, a2, b, c, e⟩ | ⟨a, a2, b, c⟩
  · rcases hm with ⟨_, m1, m2⟩ | ⟨z, _⟩ | ⟨z, _⟩
    · rw [b, c, e, m1, m2]; exact ⟨rfl, R.E⟩
    · rw [a] at z; cases z
    · rw [a] at z; cases z
  · obtain ⟨i, hi, rfl⟩ := inB_nI (n := 1) (by decide) a
    have hs := R.2.2.2.2.2 i (by omega)
    rw [ix_nI (by omega)] at hm a2
    rcases hm with ⟨z, _⟩ | ⟨_, _, m1, m2⟩ | ⟨_, z, _⟩
    · rw [a] at z; cases z
    · rw [b, c, e, m1, m2]; exact ⟨rfl, R.E⟩
    · rcases hs with ⟨q, _⟩ | ⟨_, q, _⟩
      · exact absurd q z
      · rw [a2] at q; exact absurd q (by decide)
  · obtain ⟨i, hi, rfl⟩ := inB_nI (n := 1) (by decide) a
    have hs := R.2.2.2.2.2 i (by omega)
    rw [ix_nI (by omega)] at hm a2 b c
    rcases hs with ⟨_, q⟩ | ⟨q5, q, ro⟩
    · exact absurd q a2
    · rcases hm with ⟨z, _⟩ | ⟨_, z, _⟩ | ⟨_, _, m1, m2⟩
      · rw [a] at z; cases z
      · rw [q5] at z; exact absurd z (by decide)
      · have e5 : M 4 (140 * i + 5) = nI (cn (C (8 + i))) := by
          have w := ro.1.W.1
          rw [ro.ec]; exact w
        have f1 : ∀ j, j < 140 → cp2 (M 0) (M 4) (140 * i) 140 j = Sg (M 4) i j := fun j hj => by
          unfold cp2 Sg; rw [if_pos hj]
        have ro2 : Ro (C (8 + i)) (cp2 (M 0) (M 4) (140 * i) 140) := ro.congr f1 (fun _ _ => rfl)
        have h16 := ro2.1.W.2.1
        have key : Cg (C 0) (nI (cn (C (8 + i)))) (cpS (C 0) (C (8 + i))) 0 (nI (cn (C (8 + i)))) (cp2 (M 0) (M 4) (140 * i) 140) := by
          refine Or.inl ⟨rfl, rfl, nI_pos' (by rw [ro2.ec]; omega), ro2.1, ?_⟩
          rw [cpS_Mx ro2.W, ro2.ec]
          funext j
          by_cases z : j < 12 + 8 * cn (cp2 (M 0) (M 4) (140 * i) 140)
          · rw [Mx_in z, Mx_in z]; exact ro2.2 j z
          · rw [Mx_out z, Mx_out z]
        obtain ⟨u, v⟩ := R.op key c (Or.inl ⟨rfl, rfl, m2⟩ : opP 0 (nI (cn (C (8 + i)))) (cp2 (M 0) (M 4) (140 * i) 140) M d (nI (cn (C (8 + i)))) M1)
        exact ⟨by rw [b, m1, e5], v⟩
end R9
end
