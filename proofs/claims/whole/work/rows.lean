section
-- ===== PART A: goes FIRST, ahead of the names: the tables' words, and 'selects' of the private methods out of them =====
/-- a private method of a class that the tables say can be made, by its rows of tables_1 -/
def lw_okq (q : MethodName × Nat) : Prop := (q.1.cls ≠ "java/lang/invoke/MethodHandle" ∧ q.1.cls ≠ "java/lang/invoke/VarHandle") ∧ Cond.instantiable q.1.cls q.2 ∈ tables_1 ∧ Cond.privateMethod q.1 ∈ tables_1 ∧ Cond.instanceMethod q.1 ∈ tables_1
theorem lw_p0 : lw_okq (⟨"WordSenses$Uses", "setBetween", "(III)V"⟩, 6) := ⟨⟨by decide +kernel, by decide +kernel⟩, List.mem_of_getElem? (i := 23) (by decide +kernel), List.mem_of_getElem? (i := 249) (by decide +kernel), List.mem_of_getElem? (i := 250) (by decide +kernel)⟩
theorem lw_p1 : lw_okq (⟨"WordSenses$Heaps", "addFar", "(I)V"⟩, 6) := ⟨⟨by decide +kernel, by decide +kernel⟩, List.mem_of_getElem? (i := 76) (by decide +kernel), List.mem_of_getElem? (i := 289) (by decide +kernel), List.mem_of_getElem? (i := 290) (by decide +kernel)⟩
theorem lw_p2 : lw_okq (⟨"WordSenses$Heaps", "pile", "(J)V"⟩, 6) := ⟨⟨by decide +kernel, by decide +kernel⟩, List.mem_of_getElem? (i := 76) (by decide +kernel), List.mem_of_getElem? (i := 311) (by decide +kernel), List.mem_of_getElem? (i := 312) (by decide +kernel)⟩
theorem lw_p3 : lw_okq (⟨"WordSenses", "isPair", "(II)Z"⟩, 7) := ⟨⟨by decide +kernel, by decide +kernel⟩, List.mem_of_getElem? (i := 15) (by decide +kernel), List.mem_of_getElem? (i := 338) (by decide +kernel), List.mem_of_getElem? (i := 339) (by decide +kernel)⟩
theorem lw_p4 : lw_okq (⟨"WordSenses$Settling", "layFirst", "()Z"⟩, 4) := ⟨⟨by decide +kernel, by decide +kernel⟩, List.mem_of_getElem? (i := 111) (by decide +kernel), List.mem_of_getElem? (i := 366) (by decide +kernel), List.mem_of_getElem? (i := 367) (by decide +kernel)⟩
theorem lw_p5 : lw_okq (⟨"WordSenses$Settling", "layOpen", "(I)Z"⟩, 4) := ⟨⟨by decide +kernel, by decide +kernel⟩, List.mem_of_getElem? (i := 111) (by decide +kernel), List.mem_of_getElem? (i := 371) (by decide +kernel), List.mem_of_getElem? (i := 372) (by decide +kernel)⟩
theorem lw_p6 : lw_okq (⟨"WordSenses$Settling", "moveFirst", "()Z"⟩, 4) := ⟨⟨by decide +kernel, by decide +kernel⟩, List.mem_of_getElem? (i := 111) (by decide +kernel), List.mem_of_getElem? (i := 395) (by decide +kernel), List.mem_of_getElem? (i := 396) (by decide +kernel)⟩
theorem lw_p7 : lw_okq (⟨"WordSenses$Settling", "moveUse", "(I)Z"⟩, 4) := ⟨⟨by decide +kernel, by decide +kernel⟩, List.mem_of_getElem? (i := 111) (by decide +kernel), List.mem_of_getElem? (i := 399) (by decide +kernel), List.mem_of_getElem? (i := 400) (by decide +kernel)⟩
theorem lw_p8 : lw_okq (⟨"WordSenses$Settling", "meltFirst", "()Z"⟩, 4) := ⟨⟨by decide +kernel, by decide +kernel⟩, List.mem_of_getElem? (i := 111) (by decide +kernel), List.mem_of_getElem? (i := 411) (by decide +kernel), List.mem_of_getElem? (i := 412) (by decide +kernel)⟩
theorem lw_p9 : lw_okq (⟨"WordSenses$Settling", "meltInto", "(I)Z"⟩, 4) := ⟨⟨by decide +kernel, by decide +kernel⟩, List.mem_of_getElem? (i := 111) (by decide +kernel), List.mem_of_getElem? (i := 415) (by decide +kernel), List.mem_of_getElem? (i := 416) (by decide +kernel)⟩
theorem lw_p10 : lw_okq (⟨"WordSenses", "membersOf", "(I)J"⟩, 7) := ⟨⟨by decide +kernel, by decide +kernel⟩, List.mem_of_getElem? (i := 15) (by decide +kernel), List.mem_of_getElem? (i := 435) (by decide +kernel), List.mem_of_getElem? (i := 436) (by decide +kernel)⟩
theorem lw_p11 : lw_okq (⟨"WordSenses$Search", "layRest", "(III)V"⟩, 5) := ⟨⟨by decide +kernel, by decide +kernel⟩, List.mem_of_getElem? (i := 131) (by decide +kernel), List.mem_of_getElem? (i := 483) (by decide +kernel), List.mem_of_getElem? (i := 484) (by decide +kernel)⟩
theorem lw_p12 : lw_okq (⟨"WordSenses$Naming", "nameOfOne", "(J)I"⟩, 3) := ⟨⟨by decide +kernel, by decide +kernel⟩, List.mem_of_getElem? (i := 153) (by decide +kernel), List.mem_of_getElem? (i := 501) (by decide +kernel), List.mem_of_getElem? (i := 502) (by decide +kernel)⟩
theorem lw_p13 : lw_okq (⟨"WordSenses$Naming", "marksOut", "(JJ)Z"⟩, 3) := ⟨⟨by decide +kernel, by decide +kernel⟩, List.mem_of_getElem? (i := 153) (by decide +kernel), List.mem_of_getElem? (i := 505) (by decide +kernel), List.mem_of_getElem? (i := 506) (by decide +kernel)⟩
theorem lw_p14 : lw_okq (⟨"WordSenses$Naming", "nameOfTwo", "(J)I"⟩, 3) := ⟨⟨by decide +kernel, by decide +kernel⟩, List.mem_of_getElem? (i := 153) (by decide +kernel), List.mem_of_getElem? (i := 511) (by decide +kernel), List.mem_of_getElem? (i := 512) (by decide +kernel)⟩
theorem lw_p15 : lw_okq (⟨"WordSenses$Naming", "nameOfThree", "(J)I"⟩, 3) := ⟨⟨by decide +kernel, by decide +kernel⟩, List.mem_of_getElem? (i := 153) (by decide +kernel), List.mem_of_getElem? (i := 515) (by decide +kernel), List.mem_of_getElem? (i := 516) (by decide +kernel)⟩
def lw_privs_1 : List (MethodName × Nat) := [(⟨"WordSenses$Uses", "setBetween", "(III)V"⟩, 6), (⟨"WordSenses$Heaps", "addFar", "(I)V"⟩, 6), (⟨"WordSenses$Heaps", "pile", "(J)V"⟩, 6), (⟨"WordSenses", "isPair", "(II)Z"⟩, 7), (⟨"WordSenses$Settling", "layFirst", "()Z"⟩, 4), (⟨"WordSenses$Settling", "layOpen", "(I)Z"⟩, 4), (⟨"WordSenses$Settling", "moveFirst", "()Z"⟩, 4), (⟨"WordSenses$Settling", "moveUse", "(I)Z"⟩, 4), (⟨"WordSenses$Settling", "meltFirst", "()Z"⟩, 4), (⟨"WordSenses$Settling", "meltInto", "(I)Z"⟩, 4), (⟨"WordSenses", "membersOf", "(I)J"⟩, 7), (⟨"WordSenses$Search", "layRest", "(III)V"⟩, 5), (⟨"WordSenses$Naming", "nameOfOne", "(J)I"⟩, 3), (⟨"WordSenses$Naming", "marksOut", "(JJ)Z"⟩, 3), (⟨"WordSenses$Naming", "nameOfTwo", "(J)I"⟩, 3), (⟨"WordSenses$Naming", "nameOfThree", "(J)I"⟩, 3)]
theorem lw_r1 : ∀ q ∈ lw_privs_1, lw_okq q := List.forall_mem_cons.mpr ⟨lw_p0, List.forall_mem_cons.mpr ⟨lw_p1, List.forall_mem_cons.mpr ⟨lw_p2, List.forall_mem_cons.mpr ⟨lw_p3, List.forall_mem_cons.mpr ⟨lw_p4, List.forall_mem_cons.mpr ⟨lw_p5, List.forall_mem_cons.mpr ⟨lw_p6, List.forall_mem_cons.mpr ⟨lw_p7, List.forall_mem_cons.mpr ⟨lw_p8, List.forall_mem_cons.mpr ⟨lw_p9, List.forall_mem_cons.mpr ⟨lw_p10, List.forall_mem_cons.mpr ⟨lw_p11, List.forall_mem_cons.mpr ⟨lw_p12, List.forall_mem_cons.mpr ⟨lw_p13, List.forall_mem_cons.mpr ⟨lw_p14, List.forall_mem_cons.mpr ⟨lw_p15, fun _ h => absurd h List.not_mem_nil⟩⟩⟩⟩⟩⟩⟩⟩⟩⟩⟩⟩⟩⟩⟩⟩
theorem lw_p16 : lw_okq (⟨"WordSenses$Dictionary", "match", "()V"⟩, 11) := ⟨⟨by decide +kernel, by decide +kernel⟩, List.mem_of_getElem? (i := 171) (by decide +kernel), List.mem_of_getElem? (i := 543) (by decide +kernel), List.mem_of_getElem? (i := 544) (by decide +kernel)⟩
theorem lw_p17 : lw_okq (⟨"WordSenses$Dictionary", "choose", "()V"⟩, 11) := ⟨⟨by decide +kernel, by decide +kernel⟩, List.mem_of_getElem? (i := 171) (by decide +kernel), List.mem_of_getElem? (i := 547) (by decide +kernel), List.mem_of_getElem? (i := 548) (by decide +kernel)⟩
theorem lw_p18 : lw_okq (⟨"WordSenses$Dictionary", "largestBut", "(J)I"⟩, 11) := ⟨⟨by decide +kernel, by decide +kernel⟩, List.mem_of_getElem? (i := 171) (by decide +kernel), List.mem_of_getElem? (i := 551) (by decide +kernel), List.mem_of_getElem? (i := 552) (by decide +kernel)⟩
theorem lw_p19 : lw_okq (⟨"WordSenses$Dictionary", "matchRest", "(IIII)V"⟩, 11) := ⟨⟨by decide +kernel, by decide +kernel⟩, List.mem_of_getElem? (i := 171) (by decide +kernel), List.mem_of_getElem? (i := 562) (by decide +kernel), List.mem_of_getElem? (i := 563) (by decide +kernel)⟩
theorem lw_p20 : lw_okq (⟨"WordSensesModel", "reckons", "()V"⟩, 21) := ⟨⟨by decide +kernel, by decide +kernel⟩, List.mem_of_getElem? (i := 609) (by decide +kernel), List.mem_of_getElem? (i := 687) (by decide +kernel), List.mem_of_getElem? (i := 688) (by decide +kernel)⟩
theorem lw_p21 : lw_okq (⟨"WordSensesModel", "apart", "(II)I"⟩, 21) := ⟨⟨by decide +kernel, by decide +kernel⟩, List.mem_of_getElem? (i := 609) (by decide +kernel), List.mem_of_getElem? (i := 691) (by decide +kernel), List.mem_of_getElem? (i := 692) (by decide +kernel)⟩
theorem lw_p22 : lw_okq (⟨"WordSensesModel", "beside", "(II)I"⟩, 21) := ⟨⟨by decide +kernel, by decide +kernel⟩, List.mem_of_getElem? (i := 609) (by decide +kernel), List.mem_of_getElem? (i := 708) (by decide +kernel), List.mem_of_getElem? (i := 709) (by decide +kernel)⟩
theorem lw_p23 : lw_okq (⟨"WordSensesModel", "isUse", "(I)Z"⟩, 21) := ⟨⟨by decide +kernel, by decide +kernel⟩, List.mem_of_getElem? (i := 609) (by decide +kernel), List.mem_of_getElem? (i := 716) (by decide +kernel), List.mem_of_getElem? (i := 717) (by decide +kernel)⟩
theorem lw_p24 : lw_okq (⟨"WordSensesModel", "leaves", "(I)V"⟩, 21) := ⟨⟨by decide +kernel, by decide +kernel⟩, List.mem_of_getElem? (i := 609) (by decide +kernel), List.mem_of_getElem? (i := 720) (by decide +kernel), List.mem_of_getElem? (i := 721) (by decide +kernel)⟩
theorem lw_p25 : lw_okq (⟨"WordSensesModel", "goes", "(II)V"⟩, 21) := ⟨⟨by decide +kernel, by decide +kernel⟩, List.mem_of_getElem? (i := 609) (by decide +kernel), List.mem_of_getElem? (i := 724) (by decide +kernel), List.mem_of_getElem? (i := 725) (by decide +kernel)⟩
theorem lw_p26 : lw_okq (⟨"WordSensesModel", "bondOf", "(II)I"⟩, 21) := ⟨⟨by decide +kernel, by decide +kernel⟩, List.mem_of_getElem? (i := 609) (by decide +kernel), List.mem_of_getElem? (i := 732) (by decide +kernel), List.mem_of_getElem? (i := 733) (by decide +kernel)⟩
theorem lw_p27 : lw_okq (⟨"WordSensesModel", "isBroken", "(III)Z"⟩, 21) := ⟨⟨by decide +kernel, by decide +kernel⟩, List.mem_of_getElem? (i := 609) (by decide +kernel), List.mem_of_getElem? (i := 744) (by decide +kernel), List.mem_of_getElem? (i := 745) (by decide +kernel)⟩
theorem lw_p28 : lw_okq (⟨"WordSensesModel", "goesOn", "()Z"⟩, 21) := ⟨⟨by decide +kernel, by decide +kernel⟩, List.mem_of_getElem? (i := 609) (by decide +kernel), List.mem_of_getElem? (i := 752) (by decide +kernel), List.mem_of_getElem? (i := 753) (by decide +kernel)⟩
theorem lw_p29 : lw_okq (⟨"WordSensesModel", "lays", "(I)Z"⟩, 21) := ⟨⟨by decide +kernel, by decide +kernel⟩, List.mem_of_getElem? (i := 609) (by decide +kernel), List.mem_of_getElem? (i := 756) (by decide +kernel), List.mem_of_getElem? (i := 757) (by decide +kernel)⟩
theorem lw_p30 : lw_okq (⟨"WordSensesModel", "breaks", "(II)I"⟩, 21) := ⟨⟨by decide +kernel, by decide +kernel⟩, List.mem_of_getElem? (i := 609) (by decide +kernel), List.mem_of_getElem? (i := 760) (by decide +kernel), List.mem_of_getElem? (i := 761) (by decide +kernel)⟩
theorem lw_p31 : lw_okq (⟨"WordSensesModel", "moves", "(I)Z"⟩, 21) := ⟨⟨by decide +kernel, by decide +kernel⟩, List.mem_of_getElem? (i := 609) (by decide +kernel), List.mem_of_getElem? (i := 764) (by decide +kernel), List.mem_of_getElem? (i := 765) (by decide +kernel)⟩
def lw_privs_2 : List (MethodName × Nat) := [(⟨"WordSenses$Dictionary", "match", "()V"⟩, 11), (⟨"WordSenses$Dictionary", "choose", "()V"⟩, 11), (⟨"WordSenses$Dictionary", "largestBut", "(J)I"⟩, 11), (⟨"WordSenses$Dictionary", "matchRest", "(IIII)V"⟩, 11), (⟨"WordSensesModel", "reckons", "()V"⟩, 21), (⟨"WordSensesModel", "apart", "(II)I"⟩, 21), (⟨"WordSensesModel", "beside", "(II)I"⟩, 21), (⟨"WordSensesModel", "isUse", "(I)Z"⟩, 21), (⟨"WordSensesModel", "leaves", "(I)V"⟩, 21), (⟨"WordSensesModel", "goes", "(II)V"⟩, 21), (⟨"WordSensesModel", "bondOf", "(II)I"⟩, 21), (⟨"WordSensesModel", "isBroken", "(III)Z"⟩, 21), (⟨"WordSensesModel", "goesOn", "()Z"⟩, 21), (⟨"WordSensesModel", "lays", "(I)Z"⟩, 21), (⟨"WordSensesModel", "breaks", "(II)I"⟩, 21), (⟨"WordSensesModel", "moves", "(I)Z"⟩, 21)]
theorem lw_r2 : ∀ q ∈ lw_privs_2, lw_okq q := List.forall_mem_cons.mpr ⟨lw_p16, List.forall_mem_cons.mpr ⟨lw_p17, List.forall_mem_cons.mpr ⟨lw_p18, List.forall_mem_cons.mpr ⟨lw_p19, List.forall_mem_cons.mpr ⟨lw_p20, List.forall_mem_cons.mpr ⟨lw_p21, List.forall_mem_cons.mpr ⟨lw_p22, List.forall_mem_cons.mpr ⟨lw_p23, List.forall_mem_cons.mpr ⟨lw_p24, List.forall_mem_cons.mpr ⟨lw_p25, List.forall_mem_cons.mpr ⟨lw_p26, List.forall_mem_cons.mpr ⟨lw_p27, List.forall_mem_cons.mpr ⟨lw_p28, List.forall_mem_cons.mpr ⟨lw_p29, List.forall_mem_cons.mpr ⟨lw_p30, List.forall_mem_cons.mpr ⟨lw_p31, fun _ h => absurd h List.not_mem_nil⟩⟩⟩⟩⟩⟩⟩⟩⟩⟩⟩⟩⟩⟩⟩⟩
theorem lw_p32 : lw_okq (⟨"WordSensesModel", "isHeap", "(I)Z"⟩, 21) := ⟨⟨by decide +kernel, by decide +kernel⟩, List.mem_of_getElem? (i := 609) (by decide +kernel), List.mem_of_getElem? (i := 772) (by decide +kernel), List.mem_of_getElem? (i := 773) (by decide +kernel)⟩
theorem lw_p33 : lw_okq (⟨"WordSensesModel", "melts", "(II)Z"⟩, 21) := ⟨⟨by decide +kernel, by decide +kernel⟩, List.mem_of_getElem? (i := 609) (by decide +kernel), List.mem_of_getElem? (i := 776) (by decide +kernel), List.mem_of_getElem? (i := 777) (by decide +kernel)⟩
theorem lw_p34 : lw_okq (⟨"WordSensesModel", "parted", "()I"⟩, 21) := ⟨⟨by decide +kernel, by decide +kernel⟩, List.mem_of_getElem? (i := 609) (by decide +kernel), List.mem_of_getElem? (i := 797) (by decide +kernel), List.mem_of_getElem? (i := 798) (by decide +kernel)⟩
theorem lw_p35 : lw_okq (⟨"WordSensesModel", "nexts", "()Z"⟩, 21) := ⟨⟨by decide +kernel, by decide +kernel⟩, List.mem_of_getElem? (i := 609) (by decide +kernel), List.mem_of_getElem? (i := 801) (by decide +kernel), List.mem_of_getElem? (i := 802) (by decide +kernel)⟩
theorem lw_p36 : lw_okq (⟨"WordSensesModel", "isName", "(II)Z"⟩, 21) := ⟨⟨by decide +kernel, by decide +kernel⟩, List.mem_of_getElem? (i := 609) (by decide +kernel), List.mem_of_getElem? (i := 809) (by decide +kernel), List.mem_of_getElem? (i := 810) (by decide +kernel)⟩
theorem lw_p37 : lw_okq (⟨"WordSensesModel", "matches", "()I"⟩, 21) := ⟨⟨by decide +kernel, by decide +kernel⟩, List.mem_of_getElem? (i := 609) (by decide +kernel), List.mem_of_getElem? (i := 825) (by decide +kernel), List.mem_of_getElem? (i := 826) (by decide +kernel)⟩
theorem lw_p38 : lw_okq (⟨"WordSensesModel", "isGreat", "(I)Z"⟩, 21) := ⟨⟨by decide +kernel, by decide +kernel⟩, List.mem_of_getElem? (i := 609) (by decide +kernel), List.mem_of_getElem? (i := 829) (by decide +kernel), List.mem_of_getElem? (i := 830) (by decide +kernel)⟩
theorem lw_p39 : lw_okq (⟨"WordSensesModel", "sumOf", "(III)I"⟩, 21) := ⟨⟨by decide +kernel, by decide +kernel⟩, List.mem_of_getElem? (i := 609) (by decide +kernel), List.mem_of_getElem? (i := 833) (by decide +kernel), List.mem_of_getElem? (i := 834) (by decide +kernel)⟩
def lw_privs_3 : List (MethodName × Nat) := [(⟨"WordSensesModel", "isHeap", "(I)Z"⟩, 21), (⟨"WordSensesModel", "melts", "(II)Z"⟩, 21), (⟨"WordSensesModel", "parted", "()I"⟩, 21), (⟨"WordSensesModel", "nexts", "()Z"⟩, 21), (⟨"WordSensesModel", "isName", "(II)Z"⟩, 21), (⟨"WordSensesModel", "matches", "()I"⟩, 21), (⟨"WordSensesModel", "isGreat", "(I)Z"⟩, 21), (⟨"WordSensesModel", "sumOf", "(III)I"⟩, 21)]
theorem lw_r3 : ∀ q ∈ lw_privs_3, lw_okq q := List.forall_mem_cons.mpr ⟨lw_p32, List.forall_mem_cons.mpr ⟨lw_p33, List.forall_mem_cons.mpr ⟨lw_p34, List.forall_mem_cons.mpr ⟨lw_p35, List.forall_mem_cons.mpr ⟨lw_p36, List.forall_mem_cons.mpr ⟨lw_p37, List.forall_mem_cons.mpr ⟨lw_p38, List.forall_mem_cons.mpr ⟨lw_p39, fun _ h => absurd h List.not_mem_nil⟩⟩⟩⟩⟩⟩⟩⟩
def lw_privs : List (MethodName × Nat) := lw_privs_1 ++ (lw_privs_2 ++ (lw_privs_3))
def lw_tbl : List Cond := k2_sels lw_privs ++ tables_1
theorem lw_privs_ok : ∀ q ∈ lw_privs, lw_okq q := by
  show ∀ q ∈ lw_privs_1 ++ (lw_privs_2 ++ (lw_privs_3)), lw_okq q
  exact List.forall_mem_append.mpr ⟨lw_r1, List.forall_mem_append.mpr ⟨lw_r2, lw_r3⟩⟩
-- ===== end of PART A; then your names; then what follows =====
end
section
def RX0 : String := "WordSenses$Bonds"
def TX0 : u_T := fun k => match k with
  | 0 => ("WordSenses$Bonds", "musts", "[J", true)
  | 1 => ("WordSenses$Bonds", "mustnts", "[J", true)
  | _ => ("WordSenses$Bonds", "tied", "I", false)
def tyX0 : Nat → FieldType := fun k => match k with
  | 0 => .array .long
  | 1 => .array .long
  | _ => .int
abbrev wsX00 : List Cond := u_ws RX0 TX0 3
theorem nmX0 : ∀ a, a < 3 → ∀ b, b < 3 → a ≠ b → (TX0 a).2.1 ≠ (TX0 b).2.1 := by decide +kernel
theorem tyX0_ok : ∀ k, k < 3 → parseFieldDescriptor (TX0 k).2.2.1 = some (tyX0 k) := by decide +kernel
abbrev cX0_init : ByteArray := prog_2_method_1_code
def yX0_init : MethodName := ⟨RX0, "<init>", "()V"⟩
abbrev cX0_tie : ByteArray := prog_2_method_2_code
def yX0_tie : MethodName := ⟨RX0, "tie", "(IIZ)Z"⟩
abbrev cX0_untie : ByteArray := prog_2_method_3_code
def yX0_untie : MethodName := ⟨RX0, "untie", "(II)Z"⟩
abbrev cX0_brokenBy : ByteArray := prog_2_method_4_code
def yX0_brokenBy : MethodName := ⟨RX0, "brokenBy", "(IJJ)I"⟩
abbrev cX0_brokenByMelt : ByteArray := prog_2_method_5_code
def yX0_brokenByMelt : MethodName := ⟨RX0, "brokenByMelt", "(JJ)I"⟩
abbrev cX0_brokenIn : ByteArray := prog_2_method_6_code
def yX0_brokenIn : MethodName := ⟨RX0, "brokenIn", "(LWordSenses$Heaps;)I"⟩
def RX1 : String := "WordSenses$Dictionary"
def TX1 : u_T := fun k => match k with
  | 0 => ("WordSenses$Dictionary", "uses", "LWordSenses$Uses;", true)
  | 1 => ("WordSenses$Dictionary", "heaps", "LWordSenses$Heaps;", true)
  | 2 => ("WordSenses$Dictionary", "naming", "LWordSenses$Naming;", true)
  | 3 => ("WordSenses$Dictionary", "senses", "[I", true)
  | 4 => ("WordSenses$Dictionary", "came", "I", false)
  | 5 => ("WordSenses$Dictionary", "chosen", "[I", true)
  | 6 => ("WordSenses$Dictionary", "chosenMany", "I", false)
  | 7 => ("WordSenses$Dictionary", "distances", "[I", true)
  | 8 => ("WordSenses$Dictionary", "tried", "[I", true)
  | 9 => ("WordSenses$Dictionary", "found", "[I", true)
  | _ => ("WordSenses$Dictionary", "least", "I", false)
def tyX1 : Nat → FieldType := fun k => match k with
  | 0 => .object "WordSenses$Uses"
  | 1 => .object "WordSenses$Heaps"
  | 2 => .object "WordSenses$Naming"
  | 3 => .array .int
  | 4 => .int
  | 5 => .array .int
  | 6 => .int
  | 7 => .array .int
  | 8 => .array .int
  | 9 => .array .int
  | _ => .int
abbrev wsX10 : List Cond := u_ws RX1 TX1 11
theorem nmX1 : ∀ a, a < 11 → ∀ b, b < 11 → a ≠ b → (TX1 a).2.1 ≠ (TX1 b).2.1 := by decide +kernel
theorem tyX1_ok : ∀ k, k < 11 → parseFieldDescriptor (TX1 k).2.2.1 = some (tyX1 k) := by decide +kernel
abbrev cX1_init : ByteArray := prog_3_method_1_code
def yX1_init : MethodName := ⟨RX1, "<init>", "(LWordSenses$Uses;LWordSenses$Heaps;LWordSenses$Naming;)V"⟩
abbrev cX1_take : ByteArray := prog_3_method_2_code
def yX1_take : MethodName := ⟨RX1, "take", "(I)I"⟩
abbrev cX1_senseFor : ByteArray := prog_3_method_3_code
def yX1_senseFor : MethodName := ⟨RX1, "senseFor", "(I)I"⟩
abbrev cX1_leastSum : ByteArray := prog_3_method_4_code
def yX1_leastSum : MethodName := ⟨RX1, "leastSum", "()I"⟩
abbrev cX1_match : ByteArray := prog_3_method_5_code
def yX1_match : MethodName := ⟨RX1, "match", "()V"⟩
abbrev cX1_choose : ByteArray := prog_3_method_6_code
def yX1_choose : MethodName := ⟨RX1, "choose", "()V"⟩
abbrev cX1_largestBut : ByteArray := prog_3_method_7_code
def yX1_largestBut : MethodName := ⟨RX1, "largestBut", "(J)I"⟩
abbrev cX1_matchRest : ByteArray := prog_3_method_8_code
def yX1_matchRest : MethodName := ⟨RX1, "matchRest", "(IIII)V"⟩
def RX2 : String := "WordSenses$Heaps"
def TX2 : u_T := fun k => match k with
  | 0 => ("WordSenses$Heaps", "uses", "LWordSenses$Uses;", true)
  | 1 => ("WordSenses$Heaps", "leastOf", "[I", true)
  | 2 => ("WordSenses$Heaps", "members", "[J", true)
  | 3 => ("WordSenses$Heaps", "farTo", "[I", true)
  | 4 => ("WordSenses$Heaps", "price", "I", false)
  | _ => ("WordSenses$Heaps", "gap", "I", false)
def tyX2 : Nat → FieldType := fun k => match k with
  | 0 => .object "WordSenses$Uses"
  | 1 => .array .int
  | 2 => .array .long
  | 3 => .array .int
  | 4 => .int
  | _ => .int
abbrev wsX20 : List Cond := u_ws RX2 TX2 6
theorem nmX2 : ∀ a, a < 6 → ∀ b, b < 6 → a ≠ b → (TX2 a).2.1 ≠ (TX2 b).2.1 := by decide +kernel
theorem tyX2_ok : ∀ k, k < 6 → parseFieldDescriptor (TX2 k).2.2.1 = some (tyX2 k) := by decide +kernel
abbrev cX2_init : ByteArray := prog_4_method_1_code
def yX2_init : MethodName := ⟨RX2, "<init>", "(LWordSenses$Uses;)V"⟩
abbrev cX2_isOpen : ByteArray := prog_4_method_2_code
def yX2_isOpen : MethodName := ⟨RX2, "isOpen", "(I)Z"⟩
abbrev cX2_isHeap : ByteArray := prog_4_method_3_code
def yX2_isHeap : MethodName := ⟨RX2, "isHeap", "(I)Z"⟩
abbrev cX2_around : ByteArray := prog_4_method_4_code
def yX2_around : MethodName := ⟨RX2, "around", "(I)J"⟩
abbrev cX2_allLaid : ByteArray := prog_4_method_5_code
def yX2_allLaid : MethodName := ⟨RX2, "allLaid", "()J"⟩
abbrev cX2_allOpen : ByteArray := prog_4_method_6_code
def yX2_allOpen : MethodName := ⟨RX2, "allOpen", "()J"⟩
abbrev cX2_howMany : ByteArray := prog_4_method_7_code
def yX2_howMany : MethodName := ⟨RX2, "howMany", "()I"⟩
abbrev cX2_costOfAll : ByteArray := prog_4_method_8_code
def yX2_costOfAll : MethodName := ⟨RX2, "costOfAll", "()I"⟩
abbrev cX2_open : ByteArray := prog_4_method_9_code
def yX2_open : MethodName := ⟨RX2, "open", "(I)V"⟩
abbrev cX2_putAlone : ByteArray := prog_4_method_10_code
def yX2_putAlone : MethodName := ⟨RX2, "putAlone", "(I)V"⟩
abbrev cX2_putInto : ByteArray := prog_4_method_11_code
def yX2_putInto : MethodName := ⟨RX2, "putInto", "(II)V"⟩
abbrev cX2_melt : ByteArray := prog_4_method_12_code
def yX2_melt : MethodName := ⟨RX2, "melt", "(II)V"⟩
abbrev cX2_pile : ByteArray := prog_4_method_13_code
def yX2_pile : MethodName := ⟨RX2, "pile", "(J)V"⟩
abbrev cX2_measure : ByteArray := prog_4_method_14_code
def yX2_measure : MethodName := ⟨RX2, "measure", "(J)V"⟩
abbrev cX2_addFar : ByteArray := prog_4_method_15_code
def yX2_addFar : MethodName := ⟨RX2, "addFar", "(I)V"⟩
abbrev cX2_layNew : ByteArray := prog_4_method_16_code
def yX2_layNew : MethodName := ⟨RX2, "layNew", "(I)V"⟩
def RX3 : String := "WordSenses$Naming"
def TX3 : u_T := fun k => match k with
  | 0 => ("WordSenses$Naming", "uses", "LWordSenses$Uses;", true)
  | 1 => ("WordSenses$Naming", "partsInside", "I", false)
  | _ => ("WordSenses$Naming", "mostOutside", "I", false)
def tyX3 : Nat → FieldType := fun k => match k with
  | 0 => .object "WordSenses$Uses"
  | 1 => .int
  | _ => .int
abbrev wsX30 : List Cond := u_ws RX3 TX3 3
theorem nmX3 : ∀ a, a < 3 → ∀ b, b < 3 → a ≠ b → (TX3 a).2.1 ≠ (TX3 b).2.1 := by decide +kernel
theorem tyX3_ok : ∀ k, k < 3 → parseFieldDescriptor (TX3 k).2.2.1 = some (tyX3 k) := by decide +kernel
abbrev cX3_init : ByteArray := prog_5_method_1_code
def yX3_init : MethodName := ⟨RX3, "<init>", "(LWordSenses$Uses;)V"⟩
abbrev cX3_coreOf : ByteArray := prog_5_method_2_code
def yX3_coreOf : MethodName := ⟨RX3, "coreOf", "(J)I"⟩
abbrev cX3_nameOf : ByteArray := prog_5_method_3_code
def yX3_nameOf : MethodName := ⟨RX3, "nameOf", "(J)I"⟩
abbrev cX3_nameOfOne : ByteArray := prog_5_method_4_code
def yX3_nameOfOne : MethodName := ⟨RX3, "nameOfOne", "(J)I"⟩
abbrev cX3_nameOfTwo : ByteArray := prog_5_method_5_code
def yX3_nameOfTwo : MethodName := ⟨RX3, "nameOfTwo", "(J)I"⟩
abbrev cX3_nameOfThree : ByteArray := prog_5_method_6_code
def yX3_nameOfThree : MethodName := ⟨RX3, "nameOfThree", "(J)I"⟩
abbrev cX3_marksOut : ByteArray := prog_5_method_7_code
def yX3_marksOut : MethodName := ⟨RX3, "marksOut", "(JJ)Z"⟩
def RX4 : String := "WordSenses$Search"
def TX4 : u_T := fun k => match k with
  | 0 => ("WordSenses$Search", "uses", "LWordSenses$Uses;", true)
  | 1 => ("WordSenses$Search", "bonds", "LWordSenses$Bonds;", true)
  | 2 => ("WordSenses$Search", "groups", "[J", true)
  | 3 => ("WordSenses$Search", "price", "I", false)
  | _ => ("WordSenses$Search", "least", "I", false)
def tyX4 : Nat → FieldType := fun k => match k with
  | 0 => .object "WordSenses$Uses"
  | 1 => .object "WordSenses$Bonds"
  | 2 => .array .long
  | 3 => .int
  | _ => .int
abbrev wsX40 : List Cond := u_ws RX4 TX4 5
theorem nmX4 : ∀ a, a < 5 → ∀ b, b < 5 → a ≠ b → (TX4 a).2.1 ≠ (TX4 b).2.1 := by decide +kernel
theorem tyX4_ok : ∀ k, k < 5 → parseFieldDescriptor (TX4 k).2.2.1 = some (tyX4 k) := by decide +kernel
abbrev cX4_init : ByteArray := prog_6_method_1_code
def yX4_init : MethodName := ⟨RX4, "<init>", "(LWordSenses$Uses;LWordSenses$Bonds;)V"⟩
abbrev cX4_leastCost : ByteArray := prog_6_method_2_code
def yX4_leastCost : MethodName := ⟨RX4, "leastCost", "(I)I"⟩
abbrev cX4_layRest : ByteArray := prog_6_method_3_code
def yX4_layRest : MethodName := ⟨RX4, "layRest", "(III)V"⟩
def RX5 : String := "WordSenses$Settling"
def TX5 : u_T := fun k => match k with
  | 0 => ("WordSenses$Settling", "uses", "LWordSenses$Uses;", true)
  | 1 => ("WordSenses$Settling", "bonds", "LWordSenses$Bonds;", true)
  | 2 => ("WordSenses$Settling", "heaps", "LWordSenses$Heaps;", true)
  | _ => ("WordSenses$Settling", "stepsEver", "I", false)
def tyX5 : Nat → FieldType := fun k => match k with
  | 0 => .object "WordSenses$Uses"
  | 1 => .object "WordSenses$Bonds"
  | 2 => .object "WordSenses$Heaps"
  | _ => .int
abbrev wsX50 : List Cond := u_ws RX5 TX5 4
theorem nmX5 : ∀ a, a < 4 → ∀ b, b < 4 → a ≠ b → (TX5 a).2.1 ≠ (TX5 b).2.1 := by decide +kernel
theorem tyX5_ok : ∀ k, k < 4 → parseFieldDescriptor (TX5 k).2.2.1 = some (tyX5 k) := by decide +kernel
abbrev cX5_init : ByteArray := prog_7_method_1_code
def yX5_init : MethodName := ⟨RX5, "<init>", "(LWordSenses$Uses;LWordSenses$Bonds;LWordSenses$Heaps;)V"⟩
abbrev cX5_makeSteps : ByteArray := prog_7_method_2_code
def yX5_makeSteps : MethodName := ⟨RX5, "makeSteps", "(I)I"⟩
abbrev cX5_layFirst : ByteArray := prog_7_method_3_code
def yX5_layFirst : MethodName := ⟨RX5, "layFirst", "()Z"⟩
abbrev cX5_layOpen : ByteArray := prog_7_method_4_code
def yX5_layOpen : MethodName := ⟨RX5, "layOpen", "(I)Z"⟩
abbrev cX5_moveFirst : ByteArray := prog_7_method_5_code
def yX5_moveFirst : MethodName := ⟨RX5, "moveFirst", "()Z"⟩
abbrev cX5_moveUse : ByteArray := prog_7_method_6_code
def yX5_moveUse : MethodName := ⟨RX5, "moveUse", "(I)Z"⟩
abbrev cX5_meltFirst : ByteArray := prog_7_method_7_code
def yX5_meltFirst : MethodName := ⟨RX5, "meltFirst", "()Z"⟩
abbrev cX5_meltInto : ByteArray := prog_7_method_8_code
def yX5_meltInto : MethodName := ⟨RX5, "meltInto", "(I)Z"⟩
abbrev cX5_betters : ByteArray := prog_7_method_9_code
def yX5_betters : MethodName := ⟨RX5, "betters", "(II)Z"⟩
def RX6 : String := "WordSenses$Uses"
def TX6 : u_T := fun k => match k with
  | 0 => ("WordSenses$Uses", "neighbours", "[I", true)
  | 1 => ("WordSenses$Uses", "years", "[I", true)
  | 2 => ("WordSenses$Uses", "having", "[J", true)
  | 3 => ("WordSenses$Uses", "weights", "[I", true)
  | 4 => ("WordSenses$Uses", "farRows", "[I", true)
  | _ => ("WordSenses$Uses", "came", "I", false)
def tyX6 : Nat → FieldType := fun k => match k with
  | 0 => .array .int
  | 1 => .array .int
  | 2 => .array .long
  | 3 => .array .int
  | 4 => .array .int
  | _ => .int
abbrev wsX60 : List Cond := u_ws RX6 TX6 6
theorem nmX6 : ∀ a, a < 6 → ∀ b, b < 6 → a ≠ b → (TX6 a).2.1 ≠ (TX6 b).2.1 := by decide +kernel
theorem tyX6_ok : ∀ k, k < 6 → parseFieldDescriptor (TX6 k).2.2.1 = some (tyX6 k) := by decide +kernel
abbrev cX6_init : ByteArray := prog_8_method_1_code
def yX6_init : MethodName := ⟨RX6, "<init>", "()V"⟩
abbrev cX6_has : ByteArray := prog_8_method_2_code
def yX6_has : MethodName := ⟨RX6, "has", "(I)Z"⟩
abbrev cX6_all : ByteArray := prog_8_method_3_code
def yX6_all : MethodName := ⟨RX6, "all", "()J"⟩
abbrev cX6_take : ByteArray := prog_8_method_4_code
def yX6_take : MethodName := ⟨RX6, "take", "(II)I"⟩
abbrev cX6_weigh : ByteArray := prog_8_method_5_code
def yX6_weigh : MethodName := ⟨RX6, "weigh", "(II)V"⟩
abbrev cX6_apart : ByteArray := prog_8_method_6_code
def yX6_apart : MethodName := ⟨RX6, "apart", "(II)I"⟩
abbrev cX6_between : ByteArray := prog_8_method_7_code
def yX6_between : MethodName := ⟨RX6, "between", "(II)I"⟩
abbrev cX6_setBetween : ByteArray := prog_8_method_8_code
def yX6_setBetween : MethodName := ⟨RX6, "setBetween", "(III)V"⟩
abbrev cX6_toGroup : ByteArray := prog_8_method_9_code
def yX6_toGroup : MethodName := ⟨RX6, "toGroup", "(IJ)I"⟩
abbrev cX6_ofYears : ByteArray := prog_8_method_10_code
def yX6_ofYears : MethodName := ⟨RX6, "ofYears", "(JII)I"⟩
abbrev cX6_earliestYear : ByteArray := prog_8_method_11_code
def yX6_earliestYear : MethodName := ⟨RX6, "earliestYear", "(J)I"⟩
def RX7 : String := "WordSenses"
def TX7 : u_T := fun k => match k with
  | 0 => ("WordSenses", "uses", "LWordSenses$Uses;", true)
  | 1 => ("WordSenses", "bonds", "LWordSenses$Bonds;", true)
  | 2 => ("WordSenses", "heaps", "LWordSenses$Heaps;", true)
  | 3 => ("WordSenses", "settling", "LWordSenses$Settling;", true)
  | 4 => ("WordSenses", "search", "LWordSenses$Search;", true)
  | 5 => ("WordSenses", "naming", "LWordSenses$Naming;", true)
  | _ => ("WordSenses", "dictionary", "LWordSenses$Dictionary;", true)
def tyX7 : Nat → FieldType := fun k => match k with
  | 0 => .object "WordSenses$Uses"
  | 1 => .object "WordSenses$Bonds"
  | 2 => .object "WordSenses$Heaps"
  | 3 => .object "WordSenses$Settling"
  | 4 => .object "WordSenses$Search"
  | 5 => .object "WordSenses$Naming"
  | _ => .object "WordSenses$Dictionary"
abbrev wsX70 : List Cond := u_ws RX7 TX7 7
theorem nmX7 : ∀ a, a < 7 → ∀ b, b < 7 → a ≠ b → (TX7 a).2.1 ≠ (TX7 b).2.1 := by decide +kernel
theorem tyX7_ok : ∀ k, k < 7 → parseFieldDescriptor (TX7 k).2.2.1 = some (tyX7 k) := by decide +kernel
abbrev cX7_init : ByteArray := prog_1_method_1_code
def yX7_init : MethodName := ⟨RX7, "<init>", "()V"⟩
abbrev cX7_weight : ByteArray := prog_1_method_2_code
def yX7_weight : MethodName := ⟨RX7, "weight", "(II)Z"⟩
abbrev cX7_prices : ByteArray := prog_1_method_3_code
def yX7_prices : MethodName := ⟨RX7, "prices", "(II)Z"⟩
abbrev cX7_marks : ByteArray := prog_1_method_4_code
def yX7_marks : MethodName := ⟨RX7, "marks", "(II)Z"⟩
abbrev cX7_use : ByteArray := prog_1_method_5_code
def yX7_use : MethodName := ⟨RX7, "use", "(II)I"⟩
abbrev cX7_fix : ByteArray := prog_1_method_6_code
def yX7_fix : MethodName := ⟨RX7, "fix", "(II)Z"⟩
abbrev cX7_bond : ByteArray := prog_1_method_7_code
def yX7_bond : MethodName := ⟨RX7, "bond", "(IIZ)Z"⟩
abbrev cX7_free : ByteArray := prog_1_method_8_code
def yX7_free : MethodName := ⟨RX7, "free", "(II)Z"⟩
abbrev cX7_settle : ByteArray := prog_1_method_9_code
def yX7_settle : MethodName := ⟨RX7, "settle", "(I)I"⟩
abbrev cX7_heap : ByteArray := prog_1_method_10_code
def yX7_heap : MethodName := ⟨RX7, "heap", "(I)I"⟩
abbrev cX7_size : ByteArray := prog_1_method_11_code
def yX7_size : MethodName := ⟨RX7, "size", "(I)I"⟩
abbrev cX7_far : ByteArray := prog_1_method_12_code
def yX7_far : MethodName := ⟨RX7, "far", "(II)I"⟩
abbrev cX7_cost : ByteArray := prog_1_method_13_code
def yX7_cost : MethodName := ⟨RX7, "cost", "()I"⟩
abbrev cX7_broken : ByteArray := prog_1_method_14_code
def yX7_broken : MethodName := ⟨RX7, "broken", "()I"⟩
abbrev cX7_best : ByteArray := prog_1_method_15_code
def yX7_best : MethodName := ⟨RX7, "best", "()I"⟩
abbrev cX7_name : ByteArray := prog_1_method_16_code
def yX7_name : MethodName := ⟨RX7, "name", "(I)I"⟩
abbrev cX7_core : ByteArray := prog_1_method_17_code
def yX7_core : MethodName := ⟨RX7, "core", "(I)I"⟩
abbrev cX7_sense : ByteArray := prog_1_method_18_code
def yX7_sense : MethodName := ⟨RX7, "sense", "(I)I"⟩
abbrev cX7_matched : ByteArray := prog_1_method_19_code
def yX7_matched : MethodName := ⟨RX7, "matched", "(I)I"⟩
abbrev cX7_sum : ByteArray := prog_1_method_20_code
def yX7_sum : MethodName := ⟨RX7, "sum", "()I"⟩
abbrev cX7_share : ByteArray := prog_1_method_21_code
def yX7_share : MethodName := ⟨RX7, "share", "(IIII)I"⟩
abbrev cX7_first : ByteArray := prog_1_method_22_code
def yX7_first : MethodName := ⟨RX7, "first", "(I)I"⟩
abbrev cX7_count : ByteArray := prog_1_method_23_code
def yX7_count : MethodName := ⟨RX7, "count", "(I)I"⟩
abbrev cX7_membersOf : ByteArray := prog_1_method_24_code
def yX7_membersOf : MethodName := ⟨RX7, "membersOf", "(I)J"⟩
abbrev cX7_isPair : ByteArray := prog_1_method_25_code
def yX7_isPair : MethodName := ⟨RX7, "isPair", "(II)Z"⟩
abbrev cX7_within : ByteArray := prog_1_method_26_code
def yX7_within : MethodName := ⟨RX7, "within", "(III)Z"⟩
abbrev cX7_bit : ByteArray := prog_1_method_27_code
def yX7_bit : MethodName := ⟨RX7, "bit", "(I)J"⟩
abbrev cX7_holds : ByteArray := prog_1_method_28_code
def yX7_holds : MethodName := ⟨RX7, "holds", "(JI)Z"⟩
def RX8 : String := "WordSensesModel"
def TX8 : u_T := fun k => match k with
  | 0 => ("WordSensesModel", "weight", "[I", true)
  | 1 => ("WordSensesModel", "price", "I", false)
  | 2 => ("WordSensesModel", "gap", "I", false)
  | 3 => ("WordSensesModel", "share", "I", false)
  | 4 => ("WordSensesModel", "few", "I", false)
  | 5 => ("WordSensesModel", "uses", "I", false)
  | 6 => ("WordSensesModel", "marks", "[I", true)
  | 7 => ("WordSensesModel", "year", "[I", true)
  | 8 => ("WordSensesModel", "heap", "[I", true)
  | 9 => ("WordSensesModel", "fars", "[I", true)
  | 10 => ("WordSensesModel", "bonds", "I", false)
  | 11 => ("WordSensesModel", "bondA", "[I", true)
  | 12 => ("WordSensesModel", "bondB", "[I", true)
  | 13 => ("WordSensesModel", "isMust", "[Z", true)
  | 14 => ("WordSensesModel", "senses", "I", false)
  | 15 => ("WordSensesModel", "sense", "[I", true)
  | 16 => ("WordSensesModel", "steps", "I", false)
  | 17 => ("WordSensesModel", "part", "[I", true)
  | 18 => ("WordSensesModel", "great", "[I", true)
  | 19 => ("WordSensesModel", "match", "[I", true)
  | _ => ("WordSensesModel", "matchSum", "I", false)
def tyX8 : Nat → FieldType := fun k => match k with
  | 0 => .array .int
  | 1 => .int
  | 2 => .int
  | 3 => .int
  | 4 => .int
  | 5 => .int
  | 6 => .array .int
  | 7 => .array .int
  | 8 => .array .int
  | 9 => .array .int
  | 10 => .int
  | 11 => .array .int
  | 12 => .array .int
  | 13 => .array .boolean
  | 14 => .int
  | 15 => .array .int
  | 16 => .int
  | 17 => .array .int
  | 18 => .array .int
  | 19 => .array .int
  | _ => .int
abbrev wsX80 : List Cond := u_ws RX8 TX8 21
theorem nmX8 : ∀ a, a < 21 → ∀ b, b < 21 → a ≠ b → (TX8 a).2.1 ≠ (TX8 b).2.1 := by decide +kernel
theorem tyX8_ok : ∀ k, k < 21 → parseFieldDescriptor (TX8 k).2.2.1 = some (tyX8 k) := by decide +kernel
abbrev cX8_init : ByteArray := prog_10_method_1_code
def yX8_init : MethodName := ⟨RX8, "<init>", "()V"⟩
abbrev cX8_in : ByteArray := prog_10_method_2_code
def yX8_in : MethodName := ⟨RX8, "in", "(III)Z"⟩
abbrev cX8_isUse : ByteArray := prog_10_method_3_code
def yX8_isUse : MethodName := ⟨RX8, "isUse", "(I)Z"⟩
abbrev cX8_apart : ByteArray := prog_10_method_4_code
def yX8_apart : MethodName := ⟨RX8, "apart", "(II)I"⟩
abbrev cX8_reckons : ByteArray := prog_10_method_5_code
def yX8_reckons : MethodName := ⟨RX8, "reckons", "()V"⟩
abbrev cX8_weight : ByteArray := prog_10_method_6_code
def yX8_weight : MethodName := ⟨RX8, "weight", "(II)Z"⟩
abbrev cX8_prices : ByteArray := prog_10_method_7_code
def yX8_prices : MethodName := ⟨RX8, "prices", "(II)Z"⟩
abbrev cX8_marks : ByteArray := prog_10_method_8_code
def yX8_marks : MethodName := ⟨RX8, "marks", "(II)Z"⟩
abbrev cX8_isHeap : ByteArray := prog_10_method_9_code
def yX8_isHeap : MethodName := ⟨RX8, "isHeap", "(I)Z"⟩
abbrev cX8_beside : ByteArray := prog_10_method_10_code
def yX8_beside : MethodName := ⟨RX8, "beside", "(II)I"⟩
abbrev cX8_use : ByteArray := prog_10_method_11_code
def yX8_use : MethodName := ⟨RX8, "use", "(II)I"⟩
abbrev cX8_leaves : ByteArray := prog_10_method_12_code
def yX8_leaves : MethodName := ⟨RX8, "leaves", "(I)V"⟩
abbrev cX8_goes : ByteArray := prog_10_method_13_code
def yX8_goes : MethodName := ⟨RX8, "goes", "(II)V"⟩
abbrev cX8_fix : ByteArray := prog_10_method_14_code
def yX8_fix : MethodName := ⟨RX8, "fix", "(II)Z"⟩
abbrev cX8_bondOf : ByteArray := prog_10_method_15_code
def yX8_bondOf : MethodName := ⟨RX8, "bondOf", "(II)I"⟩
abbrev cX8_bond : ByteArray := prog_10_method_16_code
def yX8_bond : MethodName := ⟨RX8, "bond", "(IIZ)Z"⟩
abbrev cX8_free : ByteArray := prog_10_method_17_code
def yX8_free : MethodName := ⟨RX8, "free", "(II)Z"⟩
abbrev cX8_isBroken : ByteArray := prog_10_method_18_code
def yX8_isBroken : MethodName := ⟨RX8, "isBroken", "(III)Z"⟩
abbrev cX8_breaks : ByteArray := prog_10_method_19_code
def yX8_breaks : MethodName := ⟨RX8, "breaks", "(II)I"⟩
abbrev cX8_broken : ByteArray := prog_10_method_20_code
def yX8_broken : MethodName := ⟨RX8, "broken", "()I"⟩
abbrev cX8_lays : ByteArray := prog_10_method_21_code
def yX8_lays : MethodName := ⟨RX8, "lays", "(I)Z"⟩
abbrev cX8_moves : ByteArray := prog_10_method_22_code
def yX8_moves : MethodName := ⟨RX8, "moves", "(I)Z"⟩
abbrev cX8_melts : ByteArray := prog_10_method_23_code
def yX8_melts : MethodName := ⟨RX8, "melts", "(II)Z"⟩
abbrev cX8_goesOn : ByteArray := prog_10_method_24_code
def yX8_goesOn : MethodName := ⟨RX8, "goesOn", "()Z"⟩
abbrev cX8_settle : ByteArray := prog_10_method_25_code
def yX8_settle : MethodName := ⟨RX8, "settle", "(I)I"⟩
abbrev cX8_heap : ByteArray := prog_10_method_26_code
def yX8_heap : MethodName := ⟨RX8, "heap", "(I)I"⟩
abbrev cX8_size : ByteArray := prog_10_method_27_code
def yX8_size : MethodName := ⟨RX8, "size", "(I)I"⟩
abbrev cX8_far : ByteArray := prog_10_method_28_code
def yX8_far : MethodName := ⟨RX8, "far", "(II)I"⟩
abbrev cX8_cost : ByteArray := prog_10_method_29_code
def yX8_cost : MethodName := ⟨RX8, "cost", "()I"⟩
abbrev cX8_parted : ByteArray := prog_10_method_30_code
def yX8_parted : MethodName := ⟨RX8, "parted", "()I"⟩
abbrev cX8_best : ByteArray := prog_10_method_31_code
def yX8_best : MethodName := ⟨RX8, "best", "()I"⟩
abbrev cX8_nexts : ByteArray := prog_10_method_32_code
def yX8_nexts : MethodName := ⟨RX8, "nexts", "()Z"⟩
abbrev cX8_isName : ByteArray := prog_10_method_33_code
def yX8_isName : MethodName := ⟨RX8, "isName", "(II)Z"⟩
abbrev cX8_name : ByteArray := prog_10_method_34_code
def yX8_name : MethodName := ⟨RX8, "name", "(I)I"⟩
abbrev cX8_core : ByteArray := prog_10_method_35_code
def yX8_core : MethodName := ⟨RX8, "core", "(I)I"⟩
abbrev cX8_sense : ByteArray := prog_10_method_36_code
def yX8_sense : MethodName := ⟨RX8, "sense", "(I)I"⟩
abbrev cX8_isGreat : ByteArray := prog_10_method_37_code
def yX8_isGreat : MethodName := ⟨RX8, "isGreat", "(I)Z"⟩
abbrev cX8_matches : ByteArray := prog_10_method_38_code
def yX8_matches : MethodName := ⟨RX8, "matches", "()I"⟩
abbrev cX8_sumOf : ByteArray := prog_10_method_39_code
def yX8_sumOf : MethodName := ⟨RX8, "sumOf", "(III)I"⟩
abbrev cX8_matched : ByteArray := prog_10_method_40_code
def yX8_matched : MethodName := ⟨RX8, "matched", "(I)I"⟩
abbrev cX8_sum : ByteArray := prog_10_method_41_code
def yX8_sum : MethodName := ⟨RX8, "sum", "()I"⟩
abbrev cX8_share : ByteArray := prog_10_method_42_code
def yX8_share : MethodName := ⟨RX8, "share", "(IIII)I"⟩
abbrev cX8_first : ByteArray := prog_10_method_43_code
def yX8_first : MethodName := ⟨RX8, "first", "(I)I"⟩
abbrev cX8_count : ByteArray := prog_10_method_44_code
def yX8_count : MethodName := ⟨RX8, "count", "(I)I"⟩
def RJ13 : String := "java/lang/Long"
def TJ13 : u_T := fun k => match k with
  | _ => ("", "", "", false)
def tyJ13 : Nat → FieldType := fun k => match k with
  | _ => .int
abbrev wsJ130 : List Cond := u_ws RJ13 TJ13 0
theorem nmJ13 : ∀ a, a < 0 → ∀ b, b < 0 → a ≠ b → (TJ13 a).2.1 ≠ (TJ13 b).2.1 := by decide +kernel
theorem tyJ13_ok : ∀ k, k < 0 → parseFieldDescriptor (TJ13 k).2.2.1 = some (tyJ13 k) := by decide +kernel
abbrev cJ13_bitCount_95d88 : ByteArray := prog_11_method_50_code
def yJ13_bitCount_95d88 : MethodName := ⟨RJ13, "bitCount", "(J)I"⟩
def RJ9 : String := "java/lang/Math"
def TJ9 : u_T := fun k => match k with
  | _ => ("", "", "", false)
def tyJ9 : Nat → FieldType := fun k => match k with
  | _ => .int
abbrev wsJ90 : List Cond := u_ws RJ9 TJ9 0
theorem nmJ9 : ∀ a, a < 0 → ∀ b, b < 0 → a ≠ b → (TJ9 a).2.1 ≠ (TJ9 b).2.1 := by decide +kernel
theorem tyJ9_ok : ∀ k, k < 0 → parseFieldDescriptor (TJ9 k).2.2.1 = some (tyJ9 k) := by decide +kernel
abbrev cJ9_max_7cf53 : ByteArray := prog_12_method_65_code
def yJ9_max_7cf53 : MethodName := ⟨RJ9, "max", "(II)I"⟩
abbrev cJ9_min_7cf53 : ByteArray := prog_12_method_69_code
def yJ9_min_7cf53 : MethodName := ⟨RJ9, "min", "(II)I"⟩
def RJ10 : String := "java/lang/System"
def TJ10 : u_T := fun k => match k with
  | _ => ("", "", "", false)
def tyJ10 : Nat → FieldType := fun k => match k with
  | _ => .int
abbrev wsJ100 : List Cond := u_ws RJ10 TJ10 0
theorem nmJ10 : ∀ a, a < 0 → ∀ b, b < 0 → a ≠ b → (TJ10 a).2.1 ≠ (TJ10 b).2.1 := by decide +kernel
theorem tyJ10_ok : ∀ k, k < 0 → parseFieldDescriptor (TJ10 k).2.2.1 = some (tyJ10 k) := by decide +kernel
def RJ7 : String := "java/util/Arrays"
def TJ7 : u_T := fun k => match k with
  | _ => ("", "", "", false)
def tyJ7 : Nat → FieldType := fun k => match k with
  | _ => .int
abbrev wsJ70 : List Cond := u_ws RJ7 TJ7 0
theorem nmJ7 : ∀ a, a < 0 → ∀ b, b < 0 → a ≠ b → (TJ7 a).2.1 ≠ (TJ7 b).2.1 := by decide +kernel
theorem tyJ7_ok : ∀ k, k < 0 → parseFieldDescriptor (TJ7 k).2.2.1 = some (tyJ7 k) := by decide +kernel
abbrev cJ7_fill_53178 : ByteArray := prog_14_method_103_code
def yJ7_fill_53178 : MethodName := ⟨RJ7, "fill", "([II)V"⟩
def RL : String := "WordSensesLaw"
abbrev cL_law : ByteArray := code
def yL_law : MethodName := ⟨RL, "law", "([I)Z"⟩
abbrev vwCl : List vw_C := [(RX0, TX0, 3), (RX1, TX1, 11), (RX2, TX2, 6), (RX3, TX3, 3), (RX4, TX4, 5), (RX5, TX5, 4), (RX6, TX6, 6), (RX7, TX7, 7), (RX8, TX8, 21)]
end
section
/-! ===== a memory of whole numbers; the world of 37 cells; a judgement over memories (my own words) ===== -/
abbrev jMem : Type := Nat → Nat → Int
def jI (x : Int) : Int32 := Int32.ofInt x
def jL (x : Int) : Int64 := Int64.ofInt x
abbrev jR (x : Int) : Prop := -2147483648 ≤ x ∧ x ≤ 2147483647
abbrev jR8 (x : Int) : Prop := -9223372036854775808 ≤ x ∧ x ≤ 9223372036854775807
theorem jI_add (x y : Int) : jI (x + y) = jI x + jI y := Int32.ofInt_add x y
theorem jI_sub (x y : Int) : jI (x - y) = jI x - jI y := Int32.ofInt_sub x y
theorem jI_mul (x y : Int) : jI (x * y) = jI x * jI y := Int32.ofInt_mul x y
theorem jI_neg (x : Int) : jI (-x) = - jI x := Int32.ofInt_neg x
theorem jL_add (x y : Int) : jL (x + y) = jL x + jL y := Int64.ofInt_add x y
theorem jL_sub (x y : Int) : jL (x - y) = jL x - jL y := Int64.ofInt_sub x y
theorem jI_to {x : Int} (h : jR x) : (jI x).toInt = x := Int32.toInt_ofInt_of_le (by have := h.1; omega) (by have := h.2; omega)
theorem jL_to {x : Int} (h : jR8 x) : (jL x).toInt = x := Int64.toInt_ofInt_of_le (by have := h.1; omega) (by have := h.2; omega)
theorem jI_of (v : Int32) : jI v.toInt = v := Int32.ofInt_toInt v
theorem jL_of (v : Int64) : jL v.toInt = v := Int64.ofInt_toInt v
theorem jI_lt {x y : Int} (hx : jR x) (hy : jR y) : jI x < jI y ↔ x < y := by rw [Int32.lt_iff_toInt_lt, jI_to hx, jI_to hy]
theorem jI_le {x y : Int} (hx : jR x) (hy : jR y) : jI x ≤ jI y ↔ x ≤ y := by rw [Int32.le_iff_toInt_le, jI_to hx, jI_to hy]
theorem jI_eq {x y : Int} (hx : jR x) (hy : jR y) : jI x = jI y ↔ x = y := by rw [← Int32.toInt_inj, jI_to hx, jI_to hy]
theorem jI_nat (n : Nat) : jI (n : Int) = nI n := rfl
theorem jI_clamp {j : Nat} (h : j < 2147483648) : (jI (j : Int)).toNatClampNeg = j := nI_clamp (by omega)
theorem jI_in {j n : Nat} (h : j < n) (hn : n < 2147483648) : vp_in (jI (j : Int)) n := vp_in_nI h (by omega)
abbrev jSh : Type := (Nat × Nat) ⊕ (Nat × List (Option Nat))
/-- the shapes: objects (class, a cell for each field that is a reference), arrays (0 int, 1 long, 2 boolean; length) -/
def jsh : List jSh := [
  .inr (7, [some 1, some 7, some 10, some 14, some 15, some 17, some 18]),
  .inr (6, [some 2, some 3, some 4, some 5, some 6, none]), .inl (0, 40), .inl (0, 40), .inl (1, 20), .inl (0, 20), .inl (0, 1600),
  .inr (0, [some 8, some 9, none]), .inl (1, 40), .inl (1, 40),
  .inr (2, [some 1, some 11, some 12, some 13, none, none]), .inl (0, 40), .inl (1, 40), .inl (0, 40),
  .inr (5, [some 1, some 7, some 10, none]),
  .inr (4, [some 1, some 7, some 16, none, none]), .inl (1, 7),
  .inr (3, [some 1, none, none]),
  .inr (1, [some 1, some 10, some 17, some 19, none, some 20, none, some 21, some 22, some 23, none]), .inl (0, 5), .inl (0, 5), .inl (0, 25), .inl (0, 5), .inl (0, 5),
  .inr (8, [some 25, none, none, none, none, none, some 26, some 27, some 28, some 29, none, some 30, some 31, some 32, none, some 33, none, some 34, some 35, some 36, none]),
  .inl (0, 20), .inl (0, 40), .inl (0, 40), .inl (0, 40), .inl (0, 1600), .inl (0, 60), .inl (0, 60), .inl (2, 60), .inl (0, 5), .inl (0, 7), .inl (0, 5), .inl (0, 5)]
/-- what a world is at: the classes, the slots, the array classes, the addresses -/
abbrev jW : Type := (Nat → ClassId) × (Nat → Nat → Nat) × ClassId × ClassId × ClassId × (Nat → Nat)
abbrev jad (ω : jW) : Nat → Nat := ω.2.2.2.2.2
abbrev jD (ω : jW) : va_G := (ω.1, ω.2.1)
abbrev jty (ω : jW) : List (ClassId × FieldType) := [(ω.2.2.1, .int), (ω.2.2.2.1, .long), (ω.2.2.2.2.1, .boolean)]
def jfv (ad : Nat → Nat) (σ : Nat → Int) (j : Nat) (t : Option Nat) : Value := match t with
  | none => .int (jI (σ j))
  | some c => .ref (ad c)
def jfs (ad : Nat → Nat) (σ : Nat → Int) (tm : List (Option Nat)) : List Value := tm.mapIdx (jfv ad σ)
def jce (ω : jW) (σ : Nat → Int) (s : jSh) : va_E := match s with
  | .inr (ci, tm) => .inr (ci, jfs (jad ω) σ tm)
  | .inl (0, n) => .inl (ω.2.2.1, n, .inl (fun j => jI (σ j)))
  | .inl (1, n) => .inl (ω.2.2.2.1, n, .inr (.inl (fun j => jL (σ j))))
  | .inl (_, n) => .inl (ω.2.2.2.2.1, n, .inl (fun j => jI (σ j)))
def jWO (ω : jW) (σ : jMem) : va_W := jsh.mapIdx (fun k s => (jad ω k, jce ω (σ k) s))
def jA (ω : jW) : Nat → Prop := fun q => ∃ k, k < 37 ∧ q = jad ω k
def jIn (ω : jW) : Prop := ∀ i j, i < 37 → j < 37 → jad ω i = jad ω j → i = j
theorem jsh_len : jsh.length = 37 := rfl
theorem jWO_at {ω : jW} {σ : jMem} {k : Nat} {s : jSh} (h : jsh[k]? = some s) : (jWO ω σ)[k]? = some (jad ω k, jce ω (σ k) s) := by
  unfold jWO
  rw [List.getElem?_mapIdx, h]
  rfl
theorem jWO_of {ω : jW} {σ : jMem} {k : Nat} {q : Nat × va_E} (h : (jWO ω σ)[k]? = some q) : k < 37 ∧ q.1 = jad ω k := by
  unfold jWO at h
  rw [List.getElem?_mapIdx] at h
  cases hs : jsh[k]? with
  | none => rw [hs] at h; cases h
  | some s =>
    rw [hs] at h
    refine ⟨?_, ?_⟩
    · have := (List.getElem?_eq_some_iff.mp hs).1
      rw [jsh_len] at this
      exact this
    · cases h
      rfl
theorem jWO_D {ω : jW} (h : jIn ω) (σ : jMem) : va_D (jA ω) (jWO ω σ) := by
  refine ⟨fun i j p q hp hq e => ?_, fun k q hq => ?_⟩
  · obtain ⟨h1, h2⟩ := jWO_of hp
    obtain ⟨h3, h4⟩ := jWO_of hq
    exact h i j h1 h3 (by rw [← h2, ← h4]; exact e)
  · obtain ⟨h1, h2⟩ := jWO_of hq
    exact ⟨k, h1, h2⟩
/-- a memory with one place changed -/
def jup (σ : jMem) (c i : Nat) (v : Int) : jMem := fun k j => if k = c ∧ j = i then v else σ k j
theorem jup_row {σ : jMem} {c i k : Nat} {v : Int} (h : k ≠ c) : jup σ c i v k = σ k := by
  funext j
  simp [jup, h]
theorem jup_at {σ : jMem} {c i : Nat} {v : Int} : jup σ c i v c i = v := by simp [jup]
theorem jup_ne {σ : jMem} {c i k j : Nat} {v : Int} (h : k ≠ c ∨ j ≠ i) : jup σ c i v k j = σ k j := by
  unfold jup
  rw [if_neg]
  rintro ⟨a, b⟩
  rcases h with h | h
  · exact h a
  · exact h b
theorem jWO_set {ω : jW} {σ : jMem} {c i : Nat} {v : Int} {s : jSh} {e : va_E} (h : jsh[c]? = some s) (he : jce ω (jup σ c i v c) s = e) : (jWO ω σ).set c (jad ω c, e) = jWO ω (jup σ c i v) := by
  apply List.ext_getElem?
  intro k
  by_cases hk : c = k
  · subst hk
    rw [jWO_at h, he, List.getElem?_set_self]
    have := (List.getElem?_eq_some_iff.mp (jWO_at (ω := ω) (σ := σ) h)).1
    exact this
  · rw [List.getElem?_set_ne hk]
    unfold jWO
    rw [List.getElem?_mapIdx, List.getElem?_mapIdx, jup_row (fun q => hk q.symm)]
def jco (ω : jW) (v : Value) : Value := match v with
  | .ref c => .ref (jad ω c)
  | v => v
theorem jco_cat (ω : jW) (v : Value) : (jco ω v).category = v.category := by cases v <;> rfl
def jLV (ω : jW) (n : Nat) (ls : Array Slot) (lv : List (Option Value)) : Prop := ls.size = n ∧ lv.length = n ∧ lv_wf ls ∧ ∀ (i : Nat) (v : Value), lv[i]? = some (some v) → ls[i]? = some (Slot.val (jco ω v))
def jTB : List Cond := lw_tbl.filter goodWord
def jNest (w : Cond) : Bool := match w with
  | .methodLinkNest _ _ _ _ => true
  | _ => false
def jNL : List Cond := lw_tbl.filter jNest
theorem jTB_mem {w : Cond} (h : w ∈ lw_tbl) (h2 : goodWord w = true) : w ∈ jTB := List.mem_filter.mpr ⟨h, h2⟩
theorem jNL_mem {w : Cond} (h : w ∈ lw_tbl) (h2 : jNest w = true) : w ∈ jNL := List.mem_filter.mpr ⟨h, h2⟩
theorem jTB_good {w : Cond} (h : w ∈ jTB) : (w.onTables && w.keeps) = true ∨ ∃ ty, w = .arrayClass ty := good_of_word (List.mem_filter.mp h).2
/-- a method: its name, bytes, locals, what it returns -/
abbrev jM : Type := MethodName × ByteArray × Nat × Option FieldType
def jws (M : jM) : List Cond := Cond.code M.1 M.2.1 M.2.2.1 M.2.2.2 :: jTB
def jrm (d : Nat) : Room := { frames := d, cells := 0, slots := 0, locals := 40 * d }
def jPre (ω : jW) (σ : jMem) (U : State) : Prop := va_P (jD ω) vwCl (jWO ω σ) U.heap ∧ va_K (jD ω) vwCl (jty ω) U ∧ (∀ w ∈ jNL, va_Nw w U) ∧ jIn ω
def jQc (ω : jW) (K : Option Value → jMem → Prop) : Array Value → State → Outcome → State → Prop := fun _ st o t =>
  ∃ (r : Option Value) (σ : jMem), o = .returned (r.map (jco ω)) ∧ K r σ ∧ va_P (jD ω) vwCl (jWO ω σ) t.heap ∧ va_F (jA ω) st t
/-- the contract of a method, in words of memories: with d frames' room it ends, and K holds of its answer and the memory behind it -/
def jRun (d : Nat) (M : jM) (as : List Value) (σ : jMem) (K : Option Value → jMem → Prop) : Prop :=
  ∀ (l : Launch) (ω : jW), Met l M.1 (jws M) (jrm d) (va_Pc (as.map (jco ω)) (jPre ω σ)) (jQc ω K) 0 0 (jA ω)
abbrev jX : Type := Program × Launch × Env × Room × State × MethodId × Array Value × List Frame × Method × Code × Nat × Nat × (State → Prop) × jW
/-- the machine at pc, with these locals, this stack, this memory, comes to its end -/
def jV (Ψ : jX → Prop) (pc : Nat) (lv : List (Option Value)) (st : List Value) (σ : jMem) : Prop :=
  ∀ (p : Program) (l : Launch) (e : Env) (R : Room) (s : State) (m : MethodId) (args : Array Value) (below : List Frame) (meth : Method) (c : Code) (cells slots : Nat) (Q : State → Prop) (ω : jW),
    Ψ (p, l, e, R, s, m, args, below, meth, c, cells, slots, Q, ω) → ∀ (ls : Array Slot) (H : Heap) (locs : List Loc), jLV ω c.maxLocals ls lv → va_P (jD ω) vwCl (jWO ω σ) H → va_S (jA ω) s.heap H locs →
      W p l e R s m args below meth c H locs cells slots Q (F0 m pc ls (st.map (jco ω)))
/-- what the machine's side gives of a context -/
def jG (Ψ : jX → Prop) (B : ByteArray) (own : String) (d : Nat) : Prop :=
  ∀ (p : Program) (l : Launch) (e : Env) (R : Room) (s : State) (m : MethodId) (args : Array Value) (below : List Frame) (meth : Method) (c : Code) (cells slots : Nat) (Q : State → Prop) (ω : jW),
    Ψ (p, l, e, R, s, m, args, below, meth, c, cells, slots, Q, ω) → p.tables.exec = Jvm.exec ∧ c.code = B ∧ s.vm.findClass own = some m.cls ∧ (∀ w ∈ jTB, w.before args s = true) ∧ (∀ w ∈ jNL, va_Nw w s) ∧ va_K (jD ω) vwCl (jty ω) s ∧ jIn ω ∧ d ≤ R.frames ∧ 40 * d ≤ R.locals ∧ cells ≤ R.cells ∧ slots ≤ R.slots
/-- a method's own context -/
def jP (M : jM) (d : Nat) (K : Option Value → jMem → Prop) : jX → Prop := fun X => match X with
  | (p, _, _, R, s, m, args, below, meth, c, cells, slots, Q, ω) => p.tables.exec = Jvm.exec ∧ c.code = M.2.1 ∧ c.maxLocals = M.2.2.1 ∧ meth.sig.returnType = M.2.2.2 ∧ meth.locks = false ∧ s.vm.findClass M.1.cls = some m.cls ∧ (∀ w ∈ jTB, w.before args s = true) ∧ (∀ w ∈ jNL, va_Nw w s) ∧ va_K (jD ω) vwCl (jty ω) s ∧ jIn ω ∧ R = jrm d ∧ cells = 0 ∧ slots = 0 ∧ Q = MQ below (jQc ω K) args s 0 0 (jA ω)
theorem gM {M : jM} {d : Nat} {K : Option Value → jMem → Prop} : jG (jP M d K) M.2.1 M.1.cls d := by
  intro p l e R s m args below meth c cells slots Q ω h
  obtain ⟨h1, h2, h3, h4, h5, h6, h7, h8, h9, h10, h11, h12, h13, h14⟩ := h
  subst h11; subst h12; subst h13
  exact ⟨h1, h2, h6, h7, h8, h9, h10, Nat.le_refl _, Nat.le_refl _, Nat.le_refl _, Nat.le_refl _⟩
def jar : List Value → List (Option Value)
  | [] => []
  | v :: r => if v.category = 2 then some v :: none :: jar r else some v :: jar r
theorem jar_len (ω : jW) (vs : List Value) : (jar vs).length = (lg_sl (vs.map (jco ω))).length := by
  induction vs with
  | nil => rfl
  | cons v r ih =>
    simp only [jar, lg_sl, List.map_cons, List.flatMap_cons, jco_cat]
    split
    · simp only [List.length_cons, List.length_append, List.length_nil]
      rw [ih]
      simp only [lg_sl]
      omega
    · simp only [List.length_cons, List.length_append, List.length_nil]
      rw [ih]
      simp only [lg_sl]
      omega
theorem jar_at (ω : jW) (vs : List Value) : ∀ (i k : Nat) (v : Value), (jar vs)[i]? = some (some v) → (k + i, jco ω v) ∈ lv_args k (vs.map (jco ω)) := by
  induction vs with
  | nil => intro i k v h; simp [jar] at h
  | cons w r ih =>
    intro i k v h
    simp only [jar] at h
    simp only [List.map_cons, lv_args, jco_cat]
    split at h
    next hc =>
      rw [if_pos hc]
      match i, h with
      | 0, h => cases h; exact List.mem_cons_self
      | 1, h => cases h
      | i + 2, h =>
        have := ih i (k + 2) v h
        rw [show k + (i + 2) = k + 2 + i by omega]
        exact List.mem_cons_of_mem _ this
    next hc =>
      rw [if_neg hc]
      match i, h with
      | 0, h => cases h; exact List.mem_cons_self
      | i + 1, h =>
        have := ih i (k + 1) v h
        rw [show k + (i + 1) = k + 1 + i by omega]
        exact List.mem_cons_of_mem _ this
theorem jenter {M : jM} {d : Nat} {as : List Value} {σ : jMem} {K : Option Value → jMem → Prop} {lv : List (Option Value)} (hM : plainName M.1.cls = true) (hlv : jar as ++ List.replicate (M.2.2.1 - (jar as).length) none = lv) (hn : (jar as).length ≤ M.2.2.1) (h : jV (jP M d K) 0 lv [] σ) : jRun d M as σ K := by
  intro l ω
  refine Met.ofW (cc := M.2.1) (maxL := M.2.2.1) (ret := M.2.2.2) (ws' := jTB) hM rfl ?_
  intro p e s m args below meth c s₁ B hml hv
  obtain ⟨hargs, hP, hK, hN, hI⟩ := hv
  have hts := atoms_spec (ws := jws M) B.pre
  have hl := lv_entry (as.map (jco ω)) (n := M.2.2.1) (by rw [← jar_len]; exact hn)
  subst hargs
  rw [lg_entry_eq]
  generalize (lg_sl (as.map (jco ω)) ++ List.replicate (M.2.2.1 - (lg_sl (as.map (jco ω))).length) Slot.unset).toArray = ls at hl ⊢
  refine h p l e _ s m _ below meth c 0 0 _ ω ⟨B.exec, B.bytes, hml, B.returns, B.notSynchronized, findClass_of_methodNamed B.named, fun w hw => hts w (List.mem_cons_of_mem _ hw), hN, hK, hI, rfl, rfl, rfl, rfl⟩ ls s.heap [] ?_ hP va_S.rf
  refine ⟨by rw [hl.1, hml], by rw [← hlv, hml]; simp; omega, hl.2.1, fun i v hi => ?_⟩
  have h2 : (jar as)[i]? = some (some v) := by
    rw [← hlv] at hi
    rcases Nat.lt_or_ge i (jar as).length with q | q
    · rw [List.getElem?_append_left q] at hi
      exact hi
    · rw [List.getElem?_append_right q, List.getElem?_replicate] at hi
      split at hi
      · cases hi
      · cases hi
  have h3 := jar_at ω as i 0 v h2
  rw [Nat.zero_add] at h3
  exact hl.2.2 _ h3
end
section
/-! ===== rows: an instruction each, over memories ===== -/
def jpr (ω : jW) (lv : List (Option Value)) : List (Nat × Value) := (List.range lv.length).filterMap (fun i => match lv[i]? with
  | some (some v) => some (i, jco ω v)
  | _ => none)
theorem jpr_of {ω : jW} {lv : List (Option Value)} {q : Nat × Value} (h : q ∈ jpr ω lv) : ∃ v, lv[q.1]? = some (some v) ∧ q.2 = jco ω v := by
  obtain ⟨i, -, hi⟩ := List.mem_filterMap.mp h
  split at hi
  next v hv => cases hi; exact ⟨v, hv, rfl⟩
  next => cases hi
theorem jpr_in {ω : jW} {lv : List (Option Value)} {i : Nat} {v : Value} (h : lv[i]? = some (some v)) : (i, jco ω v) ∈ jpr ω lv := by
  refine List.mem_filterMap.mpr ⟨i, List.mem_range.mpr (List.getElem?_eq_some_iff.mp h).1, ?_⟩
  rw [h]
theorem jLV_has {ω : jW} {n : Nat} {ls : Array Slot} {lv : List (Option Value)} (h : jLV ω n ls lv) : lv_has ls n (jpr ω lv) := by
  obtain ⟨h1, h2, h3, h4⟩ := h
  refine ⟨h1, h3, fun q hq => ?_⟩
  obtain ⟨v, hv, e⟩ := jpr_of hq
  rw [e]
  exact h4 _ _ hv
def jclr (lv : List (Option Value)) (i : Nat) : List (Option Value) := match i with
  | 0 => lv
  | j + 1 => match lv[j]? with
    | some (some v) => if v.category = 2 then lv.set j none else lv
    | _ => lv
def js1 (lv : List (Option Value)) (i : Nat) (v : Value) : List (Option Value) := (jclr lv i).set i (some v)
def js2 (lv : List (Option Value)) (i : Nat) (v : Value) : List (Option Value) := ((jclr lv i).set i (some v)).set (i + 1) none
theorem jclr_len (lv : List (Option Value)) (i : Nat) : (jclr lv i).length = lv.length := by
  unfold jclr
  split
  · rfl
  · split
    · split <;> simp
    · rfl
theorem jclr_at {lv : List (Option Value)} {i j : Nat} {w : Value} (h : (jclr lv i)[j]? = some (some w)) : lv[j]? = some (some w) ∧ ¬ (j + 1 = i ∧ w.category = 2) := by
  unfold jclr at h
  split at h
  · exact ⟨h, by omega⟩
  next k =>
    split at h
    next v hv =>
      split at h
      next hc =>
        by_cases hj : k = j
        · subst hj
          rw [List.getElem?_set_self (List.getElem?_eq_some_iff.mp hv).1] at h
          cases h
        · rw [List.getElem?_set_ne hj] at h
          exact ⟨h, by omega⟩
      next hc =>
        refine ⟨h, fun q => ?_⟩
        have e : j = k := by omega
        subst e
        rw [hv] at h
        cases h
        exact hc q.2
    next hv =>
      refine ⟨h, fun q => ?_⟩
      have e : j = k := by omega
      subst e
      exact hv _ h
theorem jLV_set1 {ω : jW} {n : Nat} {ls' : Array Slot} {lv : List (Option Value)} {i : Nat} {v : Value} (hn : lv.length = n) (hi : i < n) (h : lv_has ls' n ((i, jco ω v) :: (jpr ω lv).filter (fun q => !(q.1 == i) && !(q.1 + 1 == i && q.2.category == 2)))) : jLV ω n ls' (js1 lv i v) := by
  refine ⟨h.1, by unfold js1; rw [List.length_set, jclr_len]; exact hn, h.2.1, fun j w hw => ?_⟩
  unfold js1 at hw
  by_cases hj : i = j
  · subst hj
    rw [List.getElem?_set_self (by rw [jclr_len]; omega)] at hw
    cases hw
    exact h.2.2 _ List.mem_cons_self
  · rw [List.getElem?_set_ne hj] at hw
    obtain ⟨h1, h2⟩ := jclr_at hw
    refine h.2.2 (j, jco ω w) (List.mem_cons_of_mem _ (List.mem_filter.mpr ⟨jpr_in h1, ?_⟩))
    simp only [jco_cat]
    have a1 : (j == i) = false := by simpa using fun q => hj q.symm
    rw [a1]
    simp only [Bool.not_false, Bool.true_and, Bool.not_eq_true', Bool.and_eq_false_iff, beq_eq_false_iff_ne]
    by_cases hc : j + 1 = i
    · exact Or.inr (fun q => h2 ⟨hc, q⟩)
    · exact Or.inl hc
theorem jLV_set2 {ω : jW} {n : Nat} {ls' : Array Slot} {lv : List (Option Value)} {i : Nat} {v : Value} (hn : lv.length = n) (hi : i + 1 < n) (h : lv_has ls' n ((i, jco ω v) :: (jpr ω lv).filter (fun q => !(q.1 == i) && (!(q.1 == i + 1) && !(q.1 + 1 == i && q.2.category == 2))))) : jLV ω n ls' (js2 lv i v) := by
  refine ⟨h.1, by unfold js2; rw [List.length_set, List.length_set, jclr_len]; exact hn, h.2.1, fun j w hw => ?_⟩
  unfold js2 at hw
  by_cases hk : i + 1 = j
  · subst hk
    rw [List.getElem?_set_self (by rw [List.length_set, jclr_len]; omega)] at hw
    cases hw
  · rw [List.getElem?_set_ne hk] at hw
    by_cases hj : i = j
    · subst hj
      rw [List.getElem?_set_self (by rw [jclr_len]; omega)] at hw
      cases hw
      exact h.2.2 _ List.mem_cons_self
    · rw [List.getElem?_set_ne hj] at hw
      obtain ⟨h1, h2⟩ := jclr_at hw
      refine h.2.2 (j, jco ω w) (List.mem_cons_of_mem _ (List.mem_filter.mpr ⟨jpr_in h1, ?_⟩))
      simp only [jco_cat]
      have a1 : (j == i) = false := by simpa using fun q => hj q.symm
      have a2 : (j == i + 1) = false := by simpa using fun q => hk q.symm
      rw [a1, a2]
      simp only [Bool.not_false, Bool.true_and, Bool.not_eq_true', Bool.and_eq_false_iff, beq_eq_false_iff_ne]
      by_cases hc : j + 1 = i
      · exact Or.inr (fun q => h2 ⟨hc, q⟩)
      · exact Or.inl hc
section jRows
variable {Ψ : jX → Prop} {B : ByteArray} {own : String} {d pc pc' : Nat} {lv : List (Option Value)} {st : List Value} {σ : jMem}
theorem jr_iconst {n : Int} (G : jG Ψ B own d) (hd : decode B pc = .ok (.iconst n, 1)) (hp : pc + 1 = pc')  (k : jV Ψ pc' lv (.int (jI n) :: st) σ) : jV Ψ pc lv (st) σ := by
  subst hp
  intro p l e R s m args below meth c cells slots Q ω hΨ ls H locs hl hP hS
  obtain ⟨hx, hb, hown, hts, hnw, hK, hI, hfr, hlo, hce, hsl⟩ := G p l e R s m args below meth c cells slots Q ω hΨ
  refine lv_iconst hx hb hd rfl ?_
  exact k p l e R s m args below meth c cells slots Q ω hΨ ls H locs hl hP hS
theorem jr_bipush {n : Int} (G : jG Ψ B own d) (hd : decode B pc = .ok (.bipush n, 2)) (hp : pc + 2 = pc') (hv : (Int8.ofInt n).toInt32 = jI n) (k : jV Ψ pc' lv (.int (jI n) :: st) σ) : jV Ψ pc lv (st) σ := by
  subst hp
  intro p l e R s m args below meth c cells slots Q ω hΨ ls H locs hl hP hS
  obtain ⟨hx, hb, hown, hts, hnw, hK, hI, hfr, hlo, hce, hsl⟩ := G p l e R s m args below meth c cells slots Q ω hΨ
  refine lv_bipush hx hb hd hv ?_
  exact k p l e R s m args below meth c cells slots Q ω hΨ ls H locs hl hP hS
theorem jr_sipush {n : Int} (G : jG Ψ B own d) (hd : decode B pc = .ok (.sipush n, 3)) (hp : pc + 3 = pc') (hv : (Int16.ofInt n).toInt32 = jI n) (k : jV Ψ pc' lv (.int (jI n) :: st) σ) : jV Ψ pc lv (st) σ := by
  subst hp
  intro p l e R s m args below meth c cells slots Q ω hΨ ls H locs hl hP hS
  obtain ⟨hx, hb, hown, hts, hnw, hK, hI, hfr, hlo, hce, hsl⟩ := G p l e R s m args below meth c cells slots Q ω hΨ
  refine lv_sipush hx hb hd hv ?_
  exact k p l e R s m args below meth c cells slots Q ω hΨ ls H locs hl hP hS
theorem jr_lconst {n : Fin 2} {x : Int} (G : jG Ψ B own d) (hd : decode B pc = .ok (.lconst n, 1)) (hp : pc + 1 = pc') (hv : Int64.ofNat (n : Nat) = jL x) (k : jV Ψ pc' lv (.long (jL x) :: st) σ) : jV Ψ pc lv (st) σ := by
  subst hp
  intro p l e R s m args below meth c cells slots Q ω hΨ ls H locs hl hP hS
  obtain ⟨hx, hb, hown, hts, hnw, hK, hI, hfr, hlo, hce, hsl⟩ := G p l e R s m args below meth c cells slots Q ω hΨ
  refine lv_lconst hx hb hd hv ?_
  exact k p l e R s m args below meth c cells slots Q ω hΨ ls H locs hl hP hS
theorem jr_ldc {n : Int} {index : Nat} (G : jG Ψ B own d) (hd : decode B pc = .ok (.ldc index, 2)) (hp : pc + 2 = pc') (hw : Cond.constant own index (jI n) ∈ jTB) (k : jV Ψ pc' lv (.int (jI n) :: st) σ) : jV Ψ pc lv (st) σ := by
  subst hp
  intro p l e R s m args below meth c cells slots Q ω hΨ ls H locs hl hP hS
  obtain ⟨hx, hb, hown, hts, hnw, hK, hI, hfr, hlo, hce, hsl⟩ := G p l e R s m args below meth c cells slots Q ω hΨ
  refine lv_ldc hx hb hown (hts _ hw) hd ?_
  exact k p l e R s m args below meth c cells slots Q ω hΨ ls H locs hl hP hS
theorem jr_ldc2 {n : Int} {index : Nat} (G : jG Ψ B own d) (hd : decode B pc = .ok (.ldc2_w index, 3)) (hp : pc + 3 = pc') (hw : Cond.constantLong own index (jL n) ∈ jTB) (k : jV Ψ pc' lv (.long (jL n) :: st) σ) : jV Ψ pc lv (st) σ := by
  subst hp
  intro p l e R s m args below meth c cells slots Q ω hΨ ls H locs hl hP hS
  obtain ⟨hx, hb, hown, hts, hnw, hK, hI, hfr, hlo, hce, hsl⟩ := G p l e R s m args below meth c cells slots Q ω hΨ
  refine lv_ldc2 hx hb hown (hts _ hw) hd ?_
  exact k p l e R s m args below meth c cells slots Q ω hΨ ls H locs hl hP hS
theorem jr_iload_n {n : Fin 4} {x : Int32} (G : jG Ψ B own d) (hd : decode B pc = .ok (.iload_n n, 1)) (hp : pc + 1 = pc') (hv : lv[(n : Nat)]? = some (some (.int x))) (k : jV Ψ pc' lv (.int x :: st) σ) : jV Ψ pc lv (st) σ := by
  subst hp
  intro p l e R s m args below meth c cells slots Q ω hΨ ls H locs hl hP hS
  obtain ⟨hx, hb, hown, hts, hnw, hK, hI, hfr, hlo, hce, hsl⟩ := G p l e R s m args below meth c cells slots Q ω hΨ
  refine lv_iload_n hx hb hd rfl (hl.2.2.2 _ _ hv) ?_
  exact k p l e R s m args below meth c cells slots Q ω hΨ ls H locs hl hP hS
theorem jr_iload {n : Nat} {x : Int32} (G : jG Ψ B own d) (hd : decode B pc = .ok (.iload n, 2)) (hp : pc + 2 = pc') (hv : lv[n]? = some (some (.int x))) (k : jV Ψ pc' lv (.int x :: st) σ) : jV Ψ pc lv (st) σ := by
  subst hp
  intro p l e R s m args below meth c cells slots Q ω hΨ ls H locs hl hP hS
  obtain ⟨hx, hb, hown, hts, hnw, hK, hI, hfr, hlo, hce, hsl⟩ := G p l e R s m args below meth c cells slots Q ω hΨ
  refine lv_iload hx hb hd (hl.2.2.2 _ _ hv) ?_
  exact k p l e R s m args below meth c cells slots Q ω hΨ ls H locs hl hP hS
theorem jr_istore_n {n : Fin 4} {x : Int32} {lv' : List (Option Value)} (G : jG Ψ B own d) (hd : decode B pc = .ok (.istore_n n, 1)) (hp : pc + 1 = pc') (hv : js1 lv (n : Nat) (.int x) = lv') (hi : (n : Nat) < lv.length) (k : jV Ψ pc' lv' (st) σ) : jV Ψ pc lv (.int x :: st) σ := by
  subst hp
  intro p l e R s m args below meth c cells slots Q ω hΨ ls H locs hl hP hS
  obtain ⟨hx, hb, hown, hts, hnw, hK, hI, hfr, hlo, hce, hsl⟩ := G p l e R s m args below meth c cells slots Q ω hΨ
  have hn : lv.length = c.maxLocals := hl.2.1
  refine lv_istore_n hx hb hd rfl (jLV_has hl) (by omega) rfl (fun ls' hl' => ?_)
  exact k p l e R s m args below meth c cells slots Q ω hΨ ls' H locs (by rw [← hv]; exact jLV_set1 (v := .int x) hn (by omega) hl') hP hS
theorem jr_istore {n : Nat} {x : Int32} {lv' : List (Option Value)} (G : jG Ψ B own d) (hd : decode B pc = .ok (.istore n, 2)) (hp : pc + 2 = pc') (hv : js1 lv n (.int x) = lv') (hi : n < lv.length) (k : jV Ψ pc' lv' (st) σ) : jV Ψ pc lv (.int x :: st) σ := by
  subst hp
  intro p l e R s m args below meth c cells slots Q ω hΨ ls H locs hl hP hS
  obtain ⟨hx, hb, hown, hts, hnw, hK, hI, hfr, hlo, hce, hsl⟩ := G p l e R s m args below meth c cells slots Q ω hΨ
  have hn : lv.length = c.maxLocals := hl.2.1
  refine lv_istore hx hb hd (jLV_has hl) (by omega) rfl (fun ls' hl' => ?_)
  exact k p l e R s m args below meth c cells slots Q ω hΨ ls' H locs (by rw [← hv]; exact jLV_set1 (v := .int x) hn (by omega) hl') hP hS
theorem jr_lload_n {n : Fin 4} {x : Int64} (G : jG Ψ B own d) (hd : decode B pc = .ok (.lload_n n, 1)) (hp : pc + 1 = pc') (hv : lv[(n : Nat)]? = some (some (.long x))) (k : jV Ψ pc' lv (.long x :: st) σ) : jV Ψ pc lv (st) σ := by
  subst hp
  intro p l e R s m args below meth c cells slots Q ω hΨ ls H locs hl hP hS
  obtain ⟨hx, hb, hown, hts, hnw, hK, hI, hfr, hlo, hce, hsl⟩ := G p l e R s m args below meth c cells slots Q ω hΨ
  refine lv_lload_n hx hb hd rfl (hl.2.2.2 _ _ hv) ?_
  exact k p l e R s m args below meth c cells slots Q ω hΨ ls H locs hl hP hS
theorem jr_lload {n : Nat} {x : Int64} (G : jG Ψ B own d) (hd : decode B pc = .ok (.lload n, 2)) (hp : pc + 2 = pc') (hv : lv[n]? = some (some (.long x))) (k : jV Ψ pc' lv (.long x :: st) σ) : jV Ψ pc lv (st) σ := by
  subst hp
  intro p l e R s m args below meth c cells slots Q ω hΨ ls H locs hl hP hS
  obtain ⟨hx, hb, hown, hts, hnw, hK, hI, hfr, hlo, hce, hsl⟩ := G p l e R s m args below meth c cells slots Q ω hΨ
  refine lv_lload hx hb hd (hl.2.2.2 _ _ hv) ?_
  exact k p l e R s m args below meth c cells slots Q ω hΨ ls H locs hl hP hS
theorem jr_lstore_n {n : Fin 4} {x : Int64} {lv' : List (Option Value)} (G : jG Ψ B own d) (hd : decode B pc = .ok (.lstore_n n, 1)) (hp : pc + 1 = pc') (hv : js2 lv (n : Nat) (.long x) = lv') (hi : (n : Nat) + 1 < lv.length) (k : jV Ψ pc' lv' (st) σ) : jV Ψ pc lv (.long x :: st) σ := by
  subst hp
  intro p l e R s m args below meth c cells slots Q ω hΨ ls H locs hl hP hS
  obtain ⟨hx, hb, hown, hts, hnw, hK, hI, hfr, hlo, hce, hsl⟩ := G p l e R s m args below meth c cells slots Q ω hΨ
  have hn : lv.length = c.maxLocals := hl.2.1
  refine lv_lstore_n hx hb hd rfl (jLV_has hl) (by omega) rfl (fun ls' hl' => ?_)
  exact k p l e R s m args below meth c cells slots Q ω hΨ ls' H locs (by rw [← hv]; exact jLV_set2 (v := .long x) hn (by omega) hl') hP hS
theorem jr_lstore {n : Nat} {x : Int64} {lv' : List (Option Value)} (G : jG Ψ B own d) (hd : decode B pc = .ok (.lstore n, 2)) (hp : pc + 2 = pc') (hv : js2 lv n (.long x) = lv') (hi : n + 1 < lv.length) (k : jV Ψ pc' lv' (st) σ) : jV Ψ pc lv (.long x :: st) σ := by
  subst hp
  intro p l e R s m args below meth c cells slots Q ω hΨ ls H locs hl hP hS
  obtain ⟨hx, hb, hown, hts, hnw, hK, hI, hfr, hlo, hce, hsl⟩ := G p l e R s m args below meth c cells slots Q ω hΨ
  have hn : lv.length = c.maxLocals := hl.2.1
  refine lv_lstore hx hb hd (jLV_has hl) (by omega) rfl (fun ls' hl' => ?_)
  exact k p l e R s m args below meth c cells slots Q ω hΨ ls' H locs (by rw [← hv]; exact jLV_set2 (v := .long x) hn (by omega) hl') hP hS
theorem jr_aload_n {n : Fin 4} {x : Nat} (G : jG Ψ B own d) (hd : decode B pc = .ok (.aload_n n, 1)) (hp : pc + 1 = pc') (hv : lv[(n : Nat)]? = some (some (.ref x))) (k : jV Ψ pc' lv (.ref x :: st) σ) : jV Ψ pc lv (st) σ := by
  subst hp
  intro p l e R s m args below meth c cells slots Q ω hΨ ls H locs hl hP hS
  obtain ⟨hx, hb, hown, hts, hnw, hK, hI, hfr, hlo, hce, hsl⟩ := G p l e R s m args below meth c cells slots Q ω hΨ
  refine lv_aload_n hx hb hd rfl (hl.2.2.2 _ _ hv) ?_
  exact k p l e R s m args below meth c cells slots Q ω hΨ ls H locs hl hP hS
theorem jr_aload {n : Nat} {x : Nat} (G : jG Ψ B own d) (hd : decode B pc = .ok (.aload n, 2)) (hp : pc + 2 = pc') (hv : lv[n]? = some (some (.ref x))) (k : jV Ψ pc' lv (.ref x :: st) σ) : jV Ψ pc lv (st) σ := by
  subst hp
  intro p l e R s m args below meth c cells slots Q ω hΨ ls H locs hl hP hS
  obtain ⟨hx, hb, hown, hts, hnw, hK, hI, hfr, hlo, hce, hsl⟩ := G p l e R s m args below meth c cells slots Q ω hΨ
  refine lv_aload hx hb hd (hl.2.2.2 _ _ hv) ?_
  exact k p l e R s m args below meth c cells slots Q ω hΨ ls H locs hl hP hS
theorem jr_astore_n {n : Fin 4} {x : Nat} {lv' : List (Option Value)} (G : jG Ψ B own d) (hd : decode B pc = .ok (.astore_n n, 1)) (hp : pc + 1 = pc') (hv : js1 lv (n : Nat) (.ref x) = lv') (hi : (n : Nat) < lv.length) (k : jV Ψ pc' lv' (st) σ) : jV Ψ pc lv (.ref x :: st) σ := by
  subst hp
  intro p l e R s m args below meth c cells slots Q ω hΨ ls H locs hl hP hS
  obtain ⟨hx, hb, hown, hts, hnw, hK, hI, hfr, hlo, hce, hsl⟩ := G p l e R s m args below meth c cells slots Q ω hΨ
  have hn : lv.length = c.maxLocals := hl.2.1
  refine lv_astore_n hx hb hd rfl (jLV_has hl) (by omega) rfl (fun ls' hl' => ?_)
  exact k p l e R s m args below meth c cells slots Q ω hΨ ls' H locs (by rw [← hv]; exact jLV_set1 (v := .ref x) hn (by omega) hl') hP hS
theorem jr_astore {n : Nat} {x : Nat} {lv' : List (Option Value)} (G : jG Ψ B own d) (hd : decode B pc = .ok (.astore n, 2)) (hp : pc + 2 = pc') (hv : js1 lv n (.ref x) = lv') (hi : n < lv.length) (k : jV Ψ pc' lv' (st) σ) : jV Ψ pc lv (.ref x :: st) σ := by
  subst hp
  intro p l e R s m args below meth c cells slots Q ω hΨ ls H locs hl hP hS
  obtain ⟨hx, hb, hown, hts, hnw, hK, hI, hfr, hlo, hce, hsl⟩ := G p l e R s m args below meth c cells slots Q ω hΨ
  have hn : lv.length = c.maxLocals := hl.2.1
  refine lv_astore hx hb hd (jLV_has hl) (by omega) rfl (fun ls' hl' => ?_)
  exact k p l e R s m args below meth c cells slots Q ω hΨ ls' H locs (by rw [← hv]; exact jLV_set1 (v := .ref x) hn (by omega) hl') hP hS
theorem jr_iinc {i : Nat} {n x : Int} {lv' : List (Option Value)} (G : jG Ψ B own d) (hd : decode B pc = .ok (.iinc i n, 3)) (hp : pc + 3 = pc') (hg : lv[i]? = some (some (.int (jI x)))) (hv : js1 lv i (.int (jI (x + n))) = lv') (k : jV Ψ pc' lv' (st) σ) : jV Ψ pc lv (st) σ := by
  subst hp
  intro p l e R s m args below meth c cells slots Q ω hΨ ls H locs hl hP hS
  obtain ⟨hx, hb, hown, hts, hnw, hK, hI, hfr, hlo, hce, hsl⟩ := G p l e R s m args below meth c cells slots Q ω hΨ
  have hn : lv.length = c.maxLocals := hl.2.1
  have hi : i < lv.length := (List.getElem?_eq_some_iff.mp hg).1
  obtain ⟨q, hq⟩ := List.getElem?_of_mem (jpr_in (ω := ω) hg)
  refine lv_iinc (v := jI (x + n)) hx hb hd (jLV_has hl) (k := q) hq (by rw [jI_add]; rfl) (by omega) rfl (fun ls' hl' => ?_)
  exact k p l e R s m args below meth c cells slots Q ω hΨ ls' H locs (by rw [← hv]; exact jLV_set1 (v := .int (jI (x + n))) hn (by omega) hl') hP hS
theorem jr_iadd {x y : Int} (G : jG Ψ B own d) (hd : decode B pc = .ok (.iadd, 1)) (hp : pc + 1 = pc')  (k : jV Ψ pc' lv (.int (jI (x + y)) :: st) σ) : jV Ψ pc lv (.int (jI y) :: .int (jI x) :: st) σ := by
  subst hp
  intro p l e R s m args below meth c cells slots Q ω hΨ ls H locs hl hP hS
  obtain ⟨hx, hb, hown, hts, hnw, hK, hI, hfr, hlo, hce, hsl⟩ := G p l e R s m args below meth c cells slots Q ω hΨ
  refine lv_iadd hx hb hd ?_
  rw [jI_add] at k
  exact k p l e R s m args below meth c cells slots Q ω hΨ ls H locs hl hP hS
theorem jr_isub {x y : Int} (G : jG Ψ B own d) (hd : decode B pc = .ok (.isub, 1)) (hp : pc + 1 = pc')  (k : jV Ψ pc' lv (.int (jI (x - y)) :: st) σ) : jV Ψ pc lv (.int (jI y) :: .int (jI x) :: st) σ := by
  subst hp
  intro p l e R s m args below meth c cells slots Q ω hΨ ls H locs hl hP hS
  obtain ⟨hx, hb, hown, hts, hnw, hK, hI, hfr, hlo, hce, hsl⟩ := G p l e R s m args below meth c cells slots Q ω hΨ
  refine lv_isub hx hb hd ?_
  rw [jI_sub] at k
  exact k p l e R s m args below meth c cells slots Q ω hΨ ls H locs hl hP hS
theorem jr_imul {x y : Int} (G : jG Ψ B own d) (hd : decode B pc = .ok (.imul, 1)) (hp : pc + 1 = pc')  (k : jV Ψ pc' lv (.int (jI (x * y)) :: st) σ) : jV Ψ pc lv (.int (jI y) :: .int (jI x) :: st) σ := by
  subst hp
  intro p l e R s m args below meth c cells slots Q ω hΨ ls H locs hl hP hS
  obtain ⟨hx, hb, hown, hts, hnw, hK, hI, hfr, hlo, hce, hsl⟩ := G p l e R s m args below meth c cells slots Q ω hΨ
  refine lv_imul hx hb hd ?_
  rw [jI_mul] at k
  exact k p l e R s m args below meth c cells slots Q ω hΨ ls H locs hl hP hS
theorem jr_ineg {x : Int} (G : jG Ψ B own d) (hd : decode B pc = .ok (.ineg, 1)) (hp : pc + 1 = pc')  (k : jV Ψ pc' lv (.int (jI (-x)) :: st) σ) : jV Ψ pc lv (.int (jI x) :: st) σ := by
  subst hp
  intro p l e R s m args below meth c cells slots Q ω hΨ ls H locs hl hP hS
  obtain ⟨hx, hb, hown, hts, hnw, hK, hI, hfr, hlo, hce, hsl⟩ := G p l e R s m args below meth c cells slots Q ω hΨ
  refine lv_ineg hx hb hd ?_
  rw [jI_neg] at k
  exact k p l e R s m args below meth c cells slots Q ω hΨ ls H locs hl hP hS
theorem jr_ladd {x y : Int} (G : jG Ψ B own d) (hd : decode B pc = .ok (.ladd, 1)) (hp : pc + 1 = pc')  (k : jV Ψ pc' lv (.long (jL (x + y)) :: st) σ) : jV Ψ pc lv (.long (jL y) :: .long (jL x) :: st) σ := by
  subst hp
  intro p l e R s m args below meth c cells slots Q ω hΨ ls H locs hl hP hS
  obtain ⟨hx, hb, hown, hts, hnw, hK, hI, hfr, hlo, hce, hsl⟩ := G p l e R s m args below meth c cells slots Q ω hΨ
  refine lv_ladd hx hb hd ?_
  rw [jL_add] at k
  exact k p l e R s m args below meth c cells slots Q ω hΨ ls H locs hl hP hS
theorem jr_lsub {x y : Int} (G : jG Ψ B own d) (hd : decode B pc = .ok (.lsub, 1)) (hp : pc + 1 = pc')  (k : jV Ψ pc' lv (.long (jL (x - y)) :: st) σ) : jV Ψ pc lv (.long (jL y) :: .long (jL x) :: st) σ := by
  subst hp
  intro p l e R s m args below meth c cells slots Q ω hΨ ls H locs hl hP hS
  obtain ⟨hx, hb, hown, hts, hnw, hK, hI, hfr, hlo, hce, hsl⟩ := G p l e R s m args below meth c cells slots Q ω hΨ
  refine lv_lsub hx hb hd ?_
  rw [jL_sub] at k
  exact k p l e R s m args below meth c cells slots Q ω hΨ ls H locs hl hP hS
theorem jr_iand {x y : Int} (z : Int) (G : jG Ψ B own d) (hd : decode B pc = .ok (.iand, 1)) (hp : pc + 1 = pc') (hz : jI x &&& jI y = jI z) (k : jV Ψ pc' lv (.int (jI z) :: st) σ) : jV Ψ pc lv (.int (jI y) :: .int (jI x) :: st) σ := by
  subst hp
  intro p l e R s m args below meth c cells slots Q ω hΨ ls H locs hl hP hS
  obtain ⟨hx, hb, hown, hts, hnw, hK, hI, hfr, hlo, hce, hsl⟩ := G p l e R s m args below meth c cells slots Q ω hΨ
  refine lv_iand hx hb hd ?_
  rw [← hz] at k
  exact k p l e R s m args below meth c cells slots Q ω hΨ ls H locs hl hP hS
theorem jr_ior {x y : Int} (z : Int) (G : jG Ψ B own d) (hd : decode B pc = .ok (.ior, 1)) (hp : pc + 1 = pc') (hz : jI x ||| jI y = jI z) (k : jV Ψ pc' lv (.int (jI z) :: st) σ) : jV Ψ pc lv (.int (jI y) :: .int (jI x) :: st) σ := by
  subst hp
  intro p l e R s m args below meth c cells slots Q ω hΨ ls H locs hl hP hS
  obtain ⟨hx, hb, hown, hts, hnw, hK, hI, hfr, hlo, hce, hsl⟩ := G p l e R s m args below meth c cells slots Q ω hΨ
  refine lv_ior hx hb hd ?_
  rw [← hz] at k
  exact k p l e R s m args below meth c cells slots Q ω hΨ ls H locs hl hP hS
theorem jr_ixor {x y : Int} (z : Int) (G : jG Ψ B own d) (hd : decode B pc = .ok (.ixor, 1)) (hp : pc + 1 = pc') (hz : jI x ^^^ jI y = jI z) (k : jV Ψ pc' lv (.int (jI z) :: st) σ) : jV Ψ pc lv (.int (jI y) :: .int (jI x) :: st) σ := by
  subst hp
  intro p l e R s m args below meth c cells slots Q ω hΨ ls H locs hl hP hS
  obtain ⟨hx, hb, hown, hts, hnw, hK, hI, hfr, hlo, hce, hsl⟩ := G p l e R s m args below meth c cells slots Q ω hΨ
  refine lv_ixor hx hb hd ?_
  rw [← hz] at k
  exact k p l e R s m args below meth c cells slots Q ω hΨ ls H locs hl hP hS
theorem jr_ishl {x y : Int} (z : Int) (G : jG Ψ B own d) (hd : decode B pc = .ok (.ishl, 1)) (hp : pc + 1 = pc') (hz : jI x <<< (jI y &&& 31) = jI z) (k : jV Ψ pc' lv (.int (jI z) :: st) σ) : jV Ψ pc lv (.int (jI y) :: .int (jI x) :: st) σ := by
  subst hp
  intro p l e R s m args below meth c cells slots Q ω hΨ ls H locs hl hP hS
  obtain ⟨hx, hb, hown, hts, hnw, hK, hI, hfr, hlo, hce, hsl⟩ := G p l e R s m args below meth c cells slots Q ω hΨ
  refine lv_ishl hx hb hd ?_
  rw [← hz] at k
  exact k p l e R s m args below meth c cells slots Q ω hΨ ls H locs hl hP hS
theorem jr_ishr {x y : Int} (z : Int) (G : jG Ψ B own d) (hd : decode B pc = .ok (.ishr, 1)) (hp : pc + 1 = pc') (hz : jI x >>> (jI y &&& 31) = jI z) (k : jV Ψ pc' lv (.int (jI z) :: st) σ) : jV Ψ pc lv (.int (jI y) :: .int (jI x) :: st) σ := by
  subst hp
  intro p l e R s m args below meth c cells slots Q ω hΨ ls H locs hl hP hS
  obtain ⟨hx, hb, hown, hts, hnw, hK, hI, hfr, hlo, hce, hsl⟩ := G p l e R s m args below meth c cells slots Q ω hΨ
  refine lv_ishr hx hb hd ?_
  rw [← hz] at k
  exact k p l e R s m args below meth c cells slots Q ω hΨ ls H locs hl hP hS
theorem jr_land {x y : Int} (z : Int) (G : jG Ψ B own d) (hd : decode B pc = .ok (.land, 1)) (hp : pc + 1 = pc') (hz : jL x &&& jL y = jL z) (k : jV Ψ pc' lv (.long (jL z) :: st) σ) : jV Ψ pc lv (.long (jL y) :: .long (jL x) :: st) σ := by
  subst hp
  intro p l e R s m args below meth c cells slots Q ω hΨ ls H locs hl hP hS
  obtain ⟨hx, hb, hown, hts, hnw, hK, hI, hfr, hlo, hce, hsl⟩ := G p l e R s m args below meth c cells slots Q ω hΨ
  refine lv_land hx hb hd ?_
  rw [← hz] at k
  exact k p l e R s m args below meth c cells slots Q ω hΨ ls H locs hl hP hS
theorem jr_lor {x y : Int} (z : Int) (G : jG Ψ B own d) (hd : decode B pc = .ok (.lor, 1)) (hp : pc + 1 = pc') (hz : jL x ||| jL y = jL z) (k : jV Ψ pc' lv (.long (jL z) :: st) σ) : jV Ψ pc lv (.long (jL y) :: .long (jL x) :: st) σ := by
  subst hp
  intro p l e R s m args below meth c cells slots Q ω hΨ ls H locs hl hP hS
  obtain ⟨hx, hb, hown, hts, hnw, hK, hI, hfr, hlo, hce, hsl⟩ := G p l e R s m args below meth c cells slots Q ω hΨ
  refine lv_lor hx hb hd ?_
  rw [← hz] at k
  exact k p l e R s m args below meth c cells slots Q ω hΨ ls H locs hl hP hS
theorem jr_lxor {x y : Int} (z : Int) (G : jG Ψ B own d) (hd : decode B pc = .ok (.lxor, 1)) (hp : pc + 1 = pc') (hz : jL x ^^^ jL y = jL z) (k : jV Ψ pc' lv (.long (jL z) :: st) σ) : jV Ψ pc lv (.long (jL y) :: .long (jL x) :: st) σ := by
  subst hp
  intro p l e R s m args below meth c cells slots Q ω hΨ ls H locs hl hP hS
  obtain ⟨hx, hb, hown, hts, hnw, hK, hI, hfr, hlo, hce, hsl⟩ := G p l e R s m args below meth c cells slots Q ω hΨ
  refine lv_lxor hx hb hd ?_
  rw [← hz] at k
  exact k p l e R s m args below meth c cells slots Q ω hΨ ls H locs hl hP hS
theorem jr_lushr {x y : Int} (z : Int) (G : jG Ψ B own d) (hd : decode B pc = .ok (.lushr, 1)) (hp : pc + 1 = pc') (hz : ((jL x).toUInt64 >>> ((jI y).toInt64.toUInt64 &&& Int64.toUInt64 63)).toInt64 = jL z) (k : jV Ψ pc' lv (.long (jL z) :: st) σ) : jV Ψ pc lv (.int (jI y) :: .long (jL x) :: st) σ := by
  subst hp
  intro p l e R s m args below meth c cells slots Q ω hΨ ls H locs hl hP hS
  obtain ⟨hx, hb, hown, hts, hnw, hK, hI, hfr, hlo, hce, hsl⟩ := G p l e R s m args below meth c cells slots Q ω hΨ
  refine lv_lushr hx hb hd hz ?_
  exact k p l e R s m args below meth c cells slots Q ω hΨ ls H locs hl hP hS
theorem jr_lshl {x y : Int} (z : Int) (G : jG Ψ B own d) (hd : decode B pc = .ok (.lshl, 1)) (hp : pc + 1 = pc') (hz : jL x <<< ((jI y).toInt64 &&& 63) = jL z) (k : jV Ψ pc' lv (.long (jL z) :: st) σ) : jV Ψ pc lv (.int (jI y) :: .long (jL x) :: st) σ := by
  subst hp
  intro p l e R s m args below meth c cells slots Q ω hΨ ls H locs hl hP hS
  obtain ⟨hx, hb, hown, hts, hnw, hK, hI, hfr, hlo, hce, hsl⟩ := G p l e R s m args below meth c cells slots Q ω hΨ
  refine lv_lshl hx hb hd hz ?_
  exact k p l e R s m args below meth c cells slots Q ω hΨ ls H locs hl hP hS
theorem jr_lshr {x y : Int} (z : Int) (G : jG Ψ B own d) (hd : decode B pc = .ok (.lshr, 1)) (hp : pc + 1 = pc') (hz : jL x >>> ((jI y).toInt64 &&& 63) = jL z) (k : jV Ψ pc' lv (.long (jL z) :: st) σ) : jV Ψ pc lv (.int (jI y) :: .long (jL x) :: st) σ := by
  subst hp
  intro p l e R s m args below meth c cells slots Q ω hΨ ls H locs hl hP hS
  obtain ⟨hx, hb, hown, hts, hnw, hK, hI, hfr, hlo, hce, hsl⟩ := G p l e R s m args below meth c cells slots Q ω hΨ
  refine lv_lshr hx hb hd hz ?_
  exact k p l e R s m args below meth c cells slots Q ω hΨ ls H locs hl hP hS
theorem jr_l2i {x : Int} (z : Int) (G : jG Ψ B own d) (hd : decode B pc = .ok (.l2i, 1)) (hp : pc + 1 = pc') (hz : (jL x).toInt32 = jI z) (k : jV Ψ pc' lv (.int (jI z) :: st) σ) : jV Ψ pc lv (.long (jL x) :: st) σ := by
  subst hp
  intro p l e R s m args below meth c cells slots Q ω hΨ ls H locs hl hP hS
  obtain ⟨hx, hb, hown, hts, hnw, hK, hI, hfr, hlo, hce, hsl⟩ := G p l e R s m args below meth c cells slots Q ω hΨ
  refine lv_l2i hx hb hd hz ?_
  exact k p l e R s m args below meth c cells slots Q ω hΨ ls H locs hl hP hS
theorem jr_idiv {x y : Int} (G : jG Ψ B own d) (hd : decode B pc = .ok (.idiv, 1)) (hp : pc + 1 = pc') (hx0 : 0 ≤ x ∧ x ≤ 2147483647) (hy0 : 0 < y ∧ y ≤ 2147483647) (k : jV Ψ pc' lv (.int (jI (x / y)) :: st) σ) : jV Ψ pc lv (.int (jI y) :: .int (jI x) :: st) σ := by
  subst hp
  intro p l e R s m args below meth c cells slots Q ω hΨ ls H locs hl hP hS
  obtain ⟨hx, hb, hown, hts, hnw, hK, hI, hfr, hlo, hce, hsl⟩ := G p l e R s m args below meth c cells slots Q ω hΨ
  obtain ⟨a, rfl⟩ := Int.eq_ofNat_of_zero_le hx0.1
  obtain ⟨b, rfl⟩ := Int.eq_ofNat_of_zero_le (Int.le_of_lt hy0.1)
  refine lv_idiv hx hb hd (fun q => ?_) ?_
  · have := (jI_eq (x := (b : Int)) (y := 0) ⟨by omega, by omega⟩ ⟨by omega, by omega⟩).mp q
    omega
  have ee : jI (a : Int) / jI (b : Int) = jI ((a : Int) / (b : Int)) := pk_div (by omega) (by omega) (by omega)
  rw [ee]
  exact k p l e R s m args below meth c cells slots Q ω hΨ ls H locs hl hP hS
theorem jr_irem {x y : Int} (G : jG Ψ B own d) (hd : decode B pc = .ok (.irem, 1)) (hp : pc + 1 = pc') (hx0 : 0 ≤ x ∧ x ≤ 2147483647) (hy0 : 0 < y ∧ y ≤ 2147483647) (k : jV Ψ pc' lv (.int (jI (x % y)) :: st) σ) : jV Ψ pc lv (.int (jI y) :: .int (jI x) :: st) σ := by
  subst hp
  intro p l e R s m args below meth c cells slots Q ω hΨ ls H locs hl hP hS
  obtain ⟨hx, hb, hown, hts, hnw, hK, hI, hfr, hlo, hce, hsl⟩ := G p l e R s m args below meth c cells slots Q ω hΨ
  obtain ⟨a, rfl⟩ := Int.eq_ofNat_of_zero_le hx0.1
  obtain ⟨b, rfl⟩ := Int.eq_ofNat_of_zero_le (Int.le_of_lt hy0.1)
  refine lv_irem hx hb hd (fun q => ?_) ?_
  · have := (jI_eq (x := (b : Int)) (y := 0) ⟨by omega, by omega⟩ ⟨by omega, by omega⟩).mp q
    omega
  have ee : jI (a : Int) - jI (a : Int) / jI (b : Int) * jI (b : Int) = jI ((a : Int) % (b : Int)) := pk_rem (by omega) (by omega) (by omega)
  rw [ee]
  exact k p l e R s m args below meth c cells slots Q ω hΨ ls H locs hl hP hS
def jcmp (x y : Int) : Int := if y < x then 1 else if x = y then 0 else -1
theorem jcmp_is {x y : Int} (hx : jR8 x) (hy : jR8 y) : lg_cmp (jL x) (jL y) = jI (jcmp x y) := by
  unfold lg_cmp jcmp
  simp only [gt_iff_lt, Int64.lt_iff_toInt_lt, ← Int64.toInt_inj, jL_to hx, jL_to hy]
  split
  · rfl
  · split <;> rfl
theorem jr_lcmp {x y : Int} (G : jG Ψ B own d) (hd : decode B pc = .ok (.lcmp, 1)) (hp : pc + 1 = pc') (hx0 : jR8 x) (hy0 : jR8 y) (k : jV Ψ pc' lv (.int (jI (jcmp x y)) :: st) σ) : jV Ψ pc lv (.long (jL y) :: .long (jL x) :: st) σ := by
  subst hp
  intro p l e R s m args below meth c cells slots Q ω hΨ ls H locs hl hP hS
  obtain ⟨hx, hb, hown, hts, hnw, hK, hI, hfr, hlo, hce, hsl⟩ := G p l e R s m args below meth c cells slots Q ω hΨ
  refine W.lcmp hx hb hd ?_
  rw [jcmp_is hx0 hy0]
  exact k p l e R s m args below meth c cells slots Q ω hΨ ls H locs hl hP hS
theorem jr_dup {v : Value} (G : jG Ψ B own d) (hd : decode B pc = .ok (.dup, 1)) (hp : pc + 1 = pc') (hv : v.category = 1) (k : jV Ψ pc' lv (v :: v :: st) σ) : jV Ψ pc lv (v :: st) σ := by
  subst hp
  intro p l e R s m args below meth c cells slots Q ω hΨ ls H locs hl hP hS
  obtain ⟨hx, hb, hown, hts, hnw, hK, hI, hfr, hlo, hce, hsl⟩ := G p l e R s m args below meth c cells slots Q ω hΨ
  refine lv_dup hx hb hd (by rw [jco_cat]; exact hv) ?_
  exact k p l e R s m args below meth c cells slots Q ω hΨ ls H locs hl hP hS
theorem jr_pop {v : Value} (G : jG Ψ B own d) (hd : decode B pc = .ok (.pop, 1)) (hp : pc + 1 = pc') (hv : v.category = 1) (k : jV Ψ pc' lv (st) σ) : jV Ψ pc lv (v :: st) σ := by
  subst hp
  intro p l e R s m args below meth c cells slots Q ω hΨ ls H locs hl hP hS
  obtain ⟨hx, hb, hown, hts, hnw, hK, hI, hfr, hlo, hce, hsl⟩ := G p l e R s m args below meth c cells slots Q ω hΨ
  refine lv_pop hx hb hd (by rw [jco_cat]; exact hv) ?_
  exact k p l e R s m args below meth c cells slots Q ω hΨ ls H locs hl hP hS
theorem jr_dup2 {v w : Value} (G : jG Ψ B own d) (hd : decode B pc = .ok (.dup2, 1)) (hp : pc + 1 = pc') (hv : v.category = 1) (hw : w.category = 1) (k : jV Ψ pc' lv (v :: w :: v :: w :: st) σ) : jV Ψ pc lv (v :: w :: st) σ := by
  subst hp
  intro p l e R s m args below meth c cells slots Q ω hΨ ls H locs hl hP hS
  obtain ⟨hx, hb, hown, hts, hnw, hK, hI, hfr, hlo, hce, hsl⟩ := G p l e R s m args below meth c cells slots Q ω hΨ
  refine lv_dup2_11 hx hb hd (by rw [jco_cat]; exact hv) (by rw [jco_cat]; exact hw) ?_
  exact k p l e R s m args below meth c cells slots Q ω hΨ ls H locs hl hP hS
theorem jr_icmp_eq {x y : Int} {off : Int} {tgt : Nat} (G : jG Ψ B own d) (hd : decode B pc = .ok (.if_icmp .eq off, 3)) (ht : (pc : Int) + off = (tgt : Int)) (hp : pc + 3 = pc') (hx0 : jR x) (hy0 : jR y) (kt : x = y → jV Ψ tgt lv st σ) (kf : ¬ x = y → jV Ψ pc' lv st σ) : jV Ψ pc lv (.int (jI y) :: .int (jI x) :: st) σ := by
  subst hp
  intro p l e R s m args below meth c cells slots Q ω hΨ ls H locs hl hP hS
  obtain ⟨hx, hb, hown, hts, hnw, hK, hI, hfr, hlo, hce, hsl⟩ := G p l e R s m args below meth c cells slots Q ω hΨ
  refine lv_icmp_eq hx hb hd ht (fun q0 => ?_) (fun q0 => ?_)
  · exact kt ((jI_eq hx0 hy0).mp q0) p l e R s m args below meth c cells slots Q ω hΨ ls H locs hl hP hS
  · exact kf (fun q => q0 ((jI_eq hx0 hy0).mpr q)) p l e R s m args below meth c cells slots Q ω hΨ ls H locs hl hP hS
theorem jr_if_eq {x : Int} {off : Int} {tgt : Nat} (G : jG Ψ B own d) (hd : decode B pc = .ok (.ifCond .eq off, 3)) (ht : (pc : Int) + off = (tgt : Int)) (hp : pc + 3 = pc') (hx0 : jR x) (kt : x = 0 → jV Ψ tgt lv st σ) (kf : ¬ x = 0 → jV Ψ pc' lv st σ) : jV Ψ pc lv (.int (jI x) :: st) σ := by
  subst hp
  intro p l e R s m args below meth c cells slots Q ω hΨ ls H locs hl hP hS
  obtain ⟨hx, hb, hown, hts, hnw, hK, hI, hfr, hlo, hce, hsl⟩ := G p l e R s m args below meth c cells slots Q ω hΨ
  refine lv_if_eq hx hb hd ht (fun q0 => ?_) (fun q0 => ?_)
  · exact kt ((jI_eq (x := x) (y := 0) hx0 (⟨by omega, by omega⟩ : jR 0)).mp q0) p l e R s m args below meth c cells slots Q ω hΨ ls H locs hl hP hS
  · exact kf (fun q => q0 ((jI_eq (x := x) (y := 0) hx0 (⟨by omega, by omega⟩ : jR 0)).mpr q)) p l e R s m args below meth c cells slots Q ω hΨ ls H locs hl hP hS
theorem jr_icmp_ne {x y : Int} {off : Int} {tgt : Nat} (G : jG Ψ B own d) (hd : decode B pc = .ok (.if_icmp .ne off, 3)) (ht : (pc : Int) + off = (tgt : Int)) (hp : pc + 3 = pc') (hx0 : jR x) (hy0 : jR y) (kt : ¬ x = y → jV Ψ tgt lv st σ) (kf : x = y → jV Ψ pc' lv st σ) : jV Ψ pc lv (.int (jI y) :: .int (jI x) :: st) σ := by
  subst hp
  intro p l e R s m args below meth c cells slots Q ω hΨ ls H locs hl hP hS
  obtain ⟨hx, hb, hown, hts, hnw, hK, hI, hfr, hlo, hce, hsl⟩ := G p l e R s m args below meth c cells slots Q ω hΨ
  refine lv_icmp_ne hx hb hd ht (fun q0 => ?_) (fun q0 => ?_)
  · exact kt (fun q => q0 ((jI_eq hx0 hy0).mpr q)) p l e R s m args below meth c cells slots Q ω hΨ ls H locs hl hP hS
  · exact kf ((jI_eq hx0 hy0).mp q0) p l e R s m args below meth c cells slots Q ω hΨ ls H locs hl hP hS
theorem jr_if_ne {x : Int} {off : Int} {tgt : Nat} (G : jG Ψ B own d) (hd : decode B pc = .ok (.ifCond .ne off, 3)) (ht : (pc : Int) + off = (tgt : Int)) (hp : pc + 3 = pc') (hx0 : jR x) (kt : ¬ x = 0 → jV Ψ tgt lv st σ) (kf : x = 0 → jV Ψ pc' lv st σ) : jV Ψ pc lv (.int (jI x) :: st) σ := by
  subst hp
  intro p l e R s m args below meth c cells slots Q ω hΨ ls H locs hl hP hS
  obtain ⟨hx, hb, hown, hts, hnw, hK, hI, hfr, hlo, hce, hsl⟩ := G p l e R s m args below meth c cells slots Q ω hΨ
  refine lv_if_ne hx hb hd ht (fun q0 => ?_) (fun q0 => ?_)
  · exact kt (fun q => q0 ((jI_eq (x := x) (y := 0) hx0 (⟨by omega, by omega⟩ : jR 0)).mpr q)) p l e R s m args below meth c cells slots Q ω hΨ ls H locs hl hP hS
  · exact kf ((jI_eq (x := x) (y := 0) hx0 (⟨by omega, by omega⟩ : jR 0)).mp q0) p l e R s m args below meth c cells slots Q ω hΨ ls H locs hl hP hS
theorem jr_icmp_lt {x y : Int} {off : Int} {tgt : Nat} (G : jG Ψ B own d) (hd : decode B pc = .ok (.if_icmp .lt off, 3)) (ht : (pc : Int) + off = (tgt : Int)) (hp : pc + 3 = pc') (hx0 : jR x) (hy0 : jR y) (kt : x < y → jV Ψ tgt lv st σ) (kf : ¬ x < y → jV Ψ pc' lv st σ) : jV Ψ pc lv (.int (jI y) :: .int (jI x) :: st) σ := by
  subst hp
  intro p l e R s m args below meth c cells slots Q ω hΨ ls H locs hl hP hS
  obtain ⟨hx, hb, hown, hts, hnw, hK, hI, hfr, hlo, hce, hsl⟩ := G p l e R s m args below meth c cells slots Q ω hΨ
  refine lv_icmp_lt hx hb hd ht (fun q0 => ?_) (fun q0 => ?_)
  · exact kt ((jI_lt hx0 hy0).mp q0) p l e R s m args below meth c cells slots Q ω hΨ ls H locs hl hP hS
  · exact kf (fun q => q0 ((jI_lt hx0 hy0).mpr q)) p l e R s m args below meth c cells slots Q ω hΨ ls H locs hl hP hS
theorem jr_if_lt {x : Int} {off : Int} {tgt : Nat} (G : jG Ψ B own d) (hd : decode B pc = .ok (.ifCond .lt off, 3)) (ht : (pc : Int) + off = (tgt : Int)) (hp : pc + 3 = pc') (hx0 : jR x) (kt : x < 0 → jV Ψ tgt lv st σ) (kf : ¬ x < 0 → jV Ψ pc' lv st σ) : jV Ψ pc lv (.int (jI x) :: st) σ := by
  subst hp
  intro p l e R s m args below meth c cells slots Q ω hΨ ls H locs hl hP hS
  obtain ⟨hx, hb, hown, hts, hnw, hK, hI, hfr, hlo, hce, hsl⟩ := G p l e R s m args below meth c cells slots Q ω hΨ
  refine lv_if_lt hx hb hd ht (fun q0 => ?_) (fun q0 => ?_)
  · exact kt ((jI_lt (x := x) (y := 0) hx0 (⟨by omega, by omega⟩ : jR 0)).mp q0) p l e R s m args below meth c cells slots Q ω hΨ ls H locs hl hP hS
  · exact kf (fun q => q0 ((jI_lt (x := x) (y := 0) hx0 (⟨by omega, by omega⟩ : jR 0)).mpr q)) p l e R s m args below meth c cells slots Q ω hΨ ls H locs hl hP hS
theorem jr_icmp_le {x y : Int} {off : Int} {tgt : Nat} (G : jG Ψ B own d) (hd : decode B pc = .ok (.if_icmp .le off, 3)) (ht : (pc : Int) + off = (tgt : Int)) (hp : pc + 3 = pc') (hx0 : jR x) (hy0 : jR y) (kt : x ≤ y → jV Ψ tgt lv st σ) (kf : ¬ x ≤ y → jV Ψ pc' lv st σ) : jV Ψ pc lv (.int (jI y) :: .int (jI x) :: st) σ := by
  subst hp
  intro p l e R s m args below meth c cells slots Q ω hΨ ls H locs hl hP hS
  obtain ⟨hx, hb, hown, hts, hnw, hK, hI, hfr, hlo, hce, hsl⟩ := G p l e R s m args below meth c cells slots Q ω hΨ
  refine lv_icmp_le hx hb hd ht (fun q0 => ?_) (fun q0 => ?_)
  · exact kt ((jI_le hx0 hy0).mp q0) p l e R s m args below meth c cells slots Q ω hΨ ls H locs hl hP hS
  · exact kf (fun q => q0 ((jI_le hx0 hy0).mpr q)) p l e R s m args below meth c cells slots Q ω hΨ ls H locs hl hP hS
theorem jr_if_le {x : Int} {off : Int} {tgt : Nat} (G : jG Ψ B own d) (hd : decode B pc = .ok (.ifCond .le off, 3)) (ht : (pc : Int) + off = (tgt : Int)) (hp : pc + 3 = pc') (hx0 : jR x) (kt : x ≤ 0 → jV Ψ tgt lv st σ) (kf : ¬ x ≤ 0 → jV Ψ pc' lv st σ) : jV Ψ pc lv (.int (jI x) :: st) σ := by
  subst hp
  intro p l e R s m args below meth c cells slots Q ω hΨ ls H locs hl hP hS
  obtain ⟨hx, hb, hown, hts, hnw, hK, hI, hfr, hlo, hce, hsl⟩ := G p l e R s m args below meth c cells slots Q ω hΨ
  refine lv_if_le hx hb hd ht (fun q0 => ?_) (fun q0 => ?_)
  · exact kt ((jI_le (x := x) (y := 0) hx0 (⟨by omega, by omega⟩ : jR 0)).mp q0) p l e R s m args below meth c cells slots Q ω hΨ ls H locs hl hP hS
  · exact kf (fun q => q0 ((jI_le (x := x) (y := 0) hx0 (⟨by omega, by omega⟩ : jR 0)).mpr q)) p l e R s m args below meth c cells slots Q ω hΨ ls H locs hl hP hS
theorem jr_icmp_gt {x y : Int} {off : Int} {tgt : Nat} (G : jG Ψ B own d) (hd : decode B pc = .ok (.if_icmp .gt off, 3)) (ht : (pc : Int) + off = (tgt : Int)) (hp : pc + 3 = pc') (hx0 : jR x) (hy0 : jR y) (kt : y < x → jV Ψ tgt lv st σ) (kf : ¬ y < x → jV Ψ pc' lv st σ) : jV Ψ pc lv (.int (jI y) :: .int (jI x) :: st) σ := by
  subst hp
  intro p l e R s m args below meth c cells slots Q ω hΨ ls H locs hl hP hS
  obtain ⟨hx, hb, hown, hts, hnw, hK, hI, hfr, hlo, hce, hsl⟩ := G p l e R s m args below meth c cells slots Q ω hΨ
  refine lv_icmp_gt hx hb hd ht (fun q0 => ?_) (fun q0 => ?_)
  · exact kt ((jI_lt hy0 hx0).mp q0) p l e R s m args below meth c cells slots Q ω hΨ ls H locs hl hP hS
  · exact kf (fun q => q0 ((jI_lt hy0 hx0).mpr q)) p l e R s m args below meth c cells slots Q ω hΨ ls H locs hl hP hS
theorem jr_if_gt {x : Int} {off : Int} {tgt : Nat} (G : jG Ψ B own d) (hd : decode B pc = .ok (.ifCond .gt off, 3)) (ht : (pc : Int) + off = (tgt : Int)) (hp : pc + 3 = pc') (hx0 : jR x) (kt : 0 < x → jV Ψ tgt lv st σ) (kf : ¬ 0 < x → jV Ψ pc' lv st σ) : jV Ψ pc lv (.int (jI x) :: st) σ := by
  subst hp
  intro p l e R s m args below meth c cells slots Q ω hΨ ls H locs hl hP hS
  obtain ⟨hx, hb, hown, hts, hnw, hK, hI, hfr, hlo, hce, hsl⟩ := G p l e R s m args below meth c cells slots Q ω hΨ
  refine lv_if_gt hx hb hd ht (fun q0 => ?_) (fun q0 => ?_)
  · exact kt ((jI_lt (x := 0) (y := x) (⟨by omega, by omega⟩ : jR 0) hx0).mp q0) p l e R s m args below meth c cells slots Q ω hΨ ls H locs hl hP hS
  · exact kf (fun q => q0 ((jI_lt (x := 0) (y := x) (⟨by omega, by omega⟩ : jR 0) hx0).mpr q)) p l e R s m args below meth c cells slots Q ω hΨ ls H locs hl hP hS
theorem jr_icmp_ge {x y : Int} {off : Int} {tgt : Nat} (G : jG Ψ B own d) (hd : decode B pc = .ok (.if_icmp .ge off, 3)) (ht : (pc : Int) + off = (tgt : Int)) (hp : pc + 3 = pc') (hx0 : jR x) (hy0 : jR y) (kt : y ≤ x → jV Ψ tgt lv st σ) (kf : ¬ y ≤ x → jV Ψ pc' lv st σ) : jV Ψ pc lv (.int (jI y) :: .int (jI x) :: st) σ := by
  subst hp
  intro p l e R s m args below meth c cells slots Q ω hΨ ls H locs hl hP hS
  obtain ⟨hx, hb, hown, hts, hnw, hK, hI, hfr, hlo, hce, hsl⟩ := G p l e R s m args below meth c cells slots Q ω hΨ
  refine lv_icmp_ge hx hb hd ht (fun q0 => ?_) (fun q0 => ?_)
  · exact kt ((jI_le hy0 hx0).mp q0) p l e R s m args below meth c cells slots Q ω hΨ ls H locs hl hP hS
  · exact kf (fun q => q0 ((jI_le hy0 hx0).mpr q)) p l e R s m args below meth c cells slots Q ω hΨ ls H locs hl hP hS
theorem jr_if_ge {x : Int} {off : Int} {tgt : Nat} (G : jG Ψ B own d) (hd : decode B pc = .ok (.ifCond .ge off, 3)) (ht : (pc : Int) + off = (tgt : Int)) (hp : pc + 3 = pc') (hx0 : jR x) (kt : 0 ≤ x → jV Ψ tgt lv st σ) (kf : ¬ 0 ≤ x → jV Ψ pc' lv st σ) : jV Ψ pc lv (.int (jI x) :: st) σ := by
  subst hp
  intro p l e R s m args below meth c cells slots Q ω hΨ ls H locs hl hP hS
  obtain ⟨hx, hb, hown, hts, hnw, hK, hI, hfr, hlo, hce, hsl⟩ := G p l e R s m args below meth c cells slots Q ω hΨ
  refine lv_if_ge hx hb hd ht (fun q0 => ?_) (fun q0 => ?_)
  · exact kt ((jI_le (x := 0) (y := x) (⟨by omega, by omega⟩ : jR 0) hx0).mp q0) p l e R s m args below meth c cells slots Q ω hΨ ls H locs hl hP hS
  · exact kf (fun q => q0 ((jI_le (x := 0) (y := x) (⟨by omega, by omega⟩ : jR 0) hx0).mpr q)) p l e R s m args below meth c cells slots Q ω hΨ ls H locs hl hP hS
theorem jr_goto {off : Int} {tgt : Nat} (G : jG Ψ B own d) (hd : decode B pc = .ok (.goto off, 3)) (ht : (pc : Int) + off = (tgt : Int)) (k : jV Ψ tgt lv st σ) : jV Ψ pc lv st σ := by
  intro p l e R s m args below meth c cells slots Q ω hΨ ls H locs hl hP hS
  obtain ⟨hx, hb, hown, hts, hnw, hK, hI, hfr, hlo, hce, hsl⟩ := G p l e R s m args below meth c cells slots Q ω hΨ
  refine lv_goto hx hb hd ht ?_
  exact k p l e R s m args below meth c cells slots Q ω hΨ ls H locs hl hP hS
theorem jr_tabIn {dflt lo hi : Int} {offs : Array Int} {len : Nat} {x : Int} {off : Int} {tgt : Nat} (G : jG Ψ B own d) (hd : decode B pc = .ok (.tableswitch dflt lo hi offs, len)) (hx0 : jR x) (h1 : lo ≤ x) (h2 : x ≤ hi) (ho : offs[(x - lo).toNat]? = some off) (ht : (pc : Int) + off = (tgt : Int)) (k : jV Ψ tgt lv st σ) : jV Ψ pc lv (.int (jI x) :: st) σ := by
  intro p l e R s m args below meth c cells slots Q ω hΨ ls H locs hl hP hS
  obtain ⟨hx, hb, hown, hts, hnw, hK, hI, hfr, hlo, hce, hsl⟩ := G p l e R s m args below meth c cells slots Q ω hΨ
  refine lv_tableIn hx hb hd (x := jI x) (by rw [jI_to hx0]; omega) (by rw [jI_to hx0]; omega) (by rw [jI_to hx0]; exact ho) ht ?_
  exact k p l e R s m args below meth c cells slots Q ω hΨ ls H locs hl hP hS
theorem jr_tabOut {dflt lo hi : Int} {offs : Array Int} {len : Nat} {x : Int} {tgt : Nat} (G : jG Ψ B own d) (hd : decode B pc = .ok (.tableswitch dflt lo hi offs, len)) (hx0 : jR x) (h1 : x < lo ∨ hi < x) (ht : (pc : Int) + dflt = (tgt : Int)) (k : jV Ψ tgt lv st σ) : jV Ψ pc lv (.int (jI x) :: st) σ := by
  intro p l e R s m args below meth c cells slots Q ω hΨ ls H locs hl hP hS
  obtain ⟨hx, hb, hown, hts, hnw, hK, hI, hfr, hlo, hce, hsl⟩ := G p l e R s m args below meth c cells slots Q ω hΨ
  refine lv_tableOut hx hb hd (x := jI x) (by rw [jI_to hx0]; exact h1) ht ?_
  exact k p l e R s m args below meth c cells slots Q ω hΨ ls H locs hl hP hS
end jRows
end
section
/-! ===== rows of fields, arrays, ends and calls ===== -/
/-- a class of the worlds: its words, types, names -/
def jcl (r : vw_C) : Prop := (∀ w ∈ u_ws r.1 r.2.1 r.2.2, w ∈ jTB) ∧ ∃ ty : Nat → FieldType, (∀ k, k < r.2.2 → parseFieldDescriptor (r.2.1 k).2.2.1 = some (ty k)) ∧ ∀ a, a < r.2.2 → ∀ b, b < r.2.2 → a ≠ b → (r.2.1 a).2.1 ≠ (r.2.1 b).2.1
theorem jcl0 : jcl (RX0, TX0, 3) := ⟨fun w h => jTB_mem ((by decide +kernel : ∀ w ∈ u_ws RX0 TX0 3, w ∈ lw_tbl) w h) ((by decide +kernel : ∀ w ∈ u_ws RX0 TX0 3, goodWord w = true) w h), tyX0, tyX0_ok, nmX0⟩
theorem jcl1 : jcl (RX1, TX1, 11) := ⟨fun w h => jTB_mem ((by decide +kernel : ∀ w ∈ u_ws RX1 TX1 11, w ∈ lw_tbl) w h) ((by decide +kernel : ∀ w ∈ u_ws RX1 TX1 11, goodWord w = true) w h), tyX1, tyX1_ok, nmX1⟩
theorem jcl2 : jcl (RX2, TX2, 6) := ⟨fun w h => jTB_mem ((by decide +kernel : ∀ w ∈ u_ws RX2 TX2 6, w ∈ lw_tbl) w h) ((by decide +kernel : ∀ w ∈ u_ws RX2 TX2 6, goodWord w = true) w h), tyX2, tyX2_ok, nmX2⟩
theorem jcl3 : jcl (RX3, TX3, 3) := ⟨fun w h => jTB_mem ((by decide +kernel : ∀ w ∈ u_ws RX3 TX3 3, w ∈ lw_tbl) w h) ((by decide +kernel : ∀ w ∈ u_ws RX3 TX3 3, goodWord w = true) w h), tyX3, tyX3_ok, nmX3⟩
theorem jcl4 : jcl (RX4, TX4, 5) := ⟨fun w h => jTB_mem ((by decide +kernel : ∀ w ∈ u_ws RX4 TX4 5, w ∈ lw_tbl) w h) ((by decide +kernel : ∀ w ∈ u_ws RX4 TX4 5, goodWord w = true) w h), tyX4, tyX4_ok, nmX4⟩
theorem jcl5 : jcl (RX5, TX5, 4) := ⟨fun w h => jTB_mem ((by decide +kernel : ∀ w ∈ u_ws RX5 TX5 4, w ∈ lw_tbl) w h) ((by decide +kernel : ∀ w ∈ u_ws RX5 TX5 4, goodWord w = true) w h), tyX5, tyX5_ok, nmX5⟩
theorem jcl6 : jcl (RX6, TX6, 6) := ⟨fun w h => jTB_mem ((by decide +kernel : ∀ w ∈ u_ws RX6 TX6 6, w ∈ lw_tbl) w h) ((by decide +kernel : ∀ w ∈ u_ws RX6 TX6 6, goodWord w = true) w h), tyX6, tyX6_ok, nmX6⟩
theorem jcl7 : jcl (RX7, TX7, 7) := ⟨fun w h => jTB_mem ((by decide +kernel : ∀ w ∈ u_ws RX7 TX7 7, w ∈ lw_tbl) w h) ((by decide +kernel : ∀ w ∈ u_ws RX7 TX7 7, goodWord w = true) w h), tyX7, tyX7_ok, nmX7⟩
theorem jcl8 : jcl (RX8, TX8, 21) := ⟨fun w h => jTB_mem ((by decide +kernel : ∀ w ∈ u_ws RX8 TX8 21, w ∈ lw_tbl) w h) ((by decide +kernel : ∀ w ∈ u_ws RX8 TX8 21, goodWord w = true) w h), tyX8, tyX8_ok, nmX8⟩
theorem jcl_all : ∀ (ci : Nat) (r : vw_C), vwCl[ci]? = some r → jcl r := by
  intro ci r h
  match ci, h with
  | 0, h => cases h; exact jcl0
  | 1, h => cases h; exact jcl1
  | 2, h => cases h; exact jcl2
  | 3, h => cases h; exact jcl3
  | 4, h => cases h; exact jcl4
  | 5, h => cases h; exact jcl5
  | 6, h => cases h; exact jcl6
  | 7, h => cases h; exact jcl7
  | 8, h => cases h; exact jcl8
  | k + 9, h => simp [vwCl] at h
/-- the field k of the class ci, at an entry of a class's pool -/
def jFL (own : String) (idx ci k : Nat) : Prop := ∃ r : vw_C, vwCl[ci]? = some r ∧ k < r.2.2 ∧ Cond.fieldLink own idx (r.2.1 k).1 (r.2.1 k).2.1 (r.2.1 k).2.2.1 ∈ jTB
theorem jfs_at {ad : Nat → Nat} {σ : Nat → Int} {tm : List (Option Nat)} {k : Nat} {t : Option Nat} (h : tm[k]? = some t) : (jfs ad σ tm)[k]? = some (jfv ad σ k t) := by
  unfold jfs
  rw [List.getElem?_mapIdx, h]
  rfl
theorem jfs_set {ad : Nat → Nat} {σ : Nat → Int} {tm : List (Option Nat)} {k : Nat} {v : Int} (h : tm[k]? = some none) : jfs ad (fun j => if j = k then v else σ j) tm = (jfs ad σ tm).set k (.int (jI v)) := by
  apply List.ext_getElem?
  intro i
  have hk : k < (jfs ad σ tm).length := by unfold jfs; rw [List.length_mapIdx]; exact (List.getElem?_eq_some_iff.mp h).1
  by_cases hi : k = i
  · subst hi
    rw [List.getElem?_set_self hk, jfs_at h]
    simp [jfv]
  · rw [List.getElem?_set_ne hi]
    unfold jfs
    rw [List.getElem?_mapIdx, List.getElem?_mapIdx]
    cases tm[i]? with
    | none => rfl
    | some t =>
      cases t with
      | none => simp [jfv, show ¬ i = k from fun q => hi q.symm]
      | some c => rfl
theorem jup_self (σ : jMem) (c i : Nat) (v : Int) : jup σ c i v c = fun j => if j = i then v else σ c j := by
  funext j
  simp [jup]
section jRows2
variable {Ψ : jX → Prop} {B : ByteArray} {own : String} {d pc pc' : Nat} {lv : List (Option Value)} {st : List Value} {σ : jMem}
theorem jr_gfi {index ci k0 c0 : Nat} {tm : List (Option Nat)} (G : jG Ψ B own d) (hd : decode B pc = .ok (.getfield index, 3)) (hp : pc + 3 = pc') (hf : jFL own index ci k0) (hs : jsh[c0]? = some (.inr (ci, tm))) (ht : tm[k0]? = some none) (k : jV Ψ pc' lv (.int (jI (σ c0 k0)) :: st) σ) : jV Ψ pc lv (.ref c0 :: st) σ := by
  subst hp
  intro p l e R s m args below meth c cells slots Q ω hΨ ls H locs hl hP hS
  obtain ⟨hx, hb, hown, hts, hnw, hK, hI, hfr, hlo, hce, hsl⟩ := G p l e R s m args below meth c cells slots Q ω hΨ
  obtain ⟨⟨C, T, N⟩, h1, h2, h3⟩ := hf
  obtain ⟨j1, ty, j2, j3⟩ := jcl_all _ _ h1
  refine va_get (D := jD ω) (ci := ci) (v := .int (jI (σ c0 k0))) (C := C) (T := T) (N := N) hx hb hts j1 hown hK hP c0 (jWO_at hs) h1 k0 h2 (hts _ h3) (fun _ h9 => h9) (jfs_at ht) hd ?_
  exact k p l e R s m args below meth c cells slots Q ω hΨ ls H locs hl hP hS
theorem jr_gfr {index ci k0 c0 c1 : Nat} {tm : List (Option Nat)} (G : jG Ψ B own d) (hd : decode B pc = .ok (.getfield index, 3)) (hp : pc + 3 = pc') (hf : jFL own index ci k0) (hs : jsh[c0]? = some (.inr (ci, tm))) (ht : tm[k0]? = some (some c1)) (k : jV Ψ pc' lv (.ref c1 :: st) σ) : jV Ψ pc lv (.ref c0 :: st) σ := by
  subst hp
  intro p l e R s m args below meth c cells slots Q ω hΨ ls H locs hl hP hS
  obtain ⟨hx, hb, hown, hts, hnw, hK, hI, hfr, hlo, hce, hsl⟩ := G p l e R s m args below meth c cells slots Q ω hΨ
  obtain ⟨⟨C, T, N⟩, h1, h2, h3⟩ := hf
  obtain ⟨j1, ty, j2, j3⟩ := jcl_all _ _ h1
  refine va_get (D := jD ω) (ci := ci) (v := .ref (jad ω c1)) (C := C) (T := T) (N := N) hx hb hts j1 hown hK hP c0 (jWO_at hs) h1 k0 h2 (hts _ h3) (fun _ h9 => h9) (jfs_at ht) hd ?_
  exact k p l e R s m args below meth c cells slots Q ω hΨ ls H locs hl hP hS
theorem jr_pf {index ci k0 c0 : Nat} {tm : List (Option Nat)} {x : Int} (G : jG Ψ B own d) (hd : decode B pc = .ok (.putfield index, 3)) (hp : pc + 3 = pc') (hf : jFL own index ci k0) (hs : jsh[c0]? = some (.inr (ci, tm))) (ht : tm[k0]? = some none) (hfin : (match vwCl[ci]? with | some r => (r.2.1 k0).2.2.2 = false ∧ parseFieldDescriptor (r.2.1 k0).2.2.1 = some .int | none => False)) (k : jV Ψ pc' lv st (jup σ c0 k0 x)) : jV Ψ pc lv (.int (jI x) :: .ref c0 :: st) σ := by
  subst hp
  intro p l e R s m args below meth c cells slots Q ω hΨ ls H locs hl hP hS
  obtain ⟨hx, hb, hown, hts, hnw, hK, hI, hfr, hlo, hce, hsl⟩ := G p l e R s m args below meth c cells slots Q ω hΨ
  obtain ⟨⟨C, T, N⟩, h1, h2, h3⟩ := hf
  obtain ⟨j1, ty, j2, j3⟩ := jcl_all _ _ h1
  rw [h1] at hfin
  have hlen : k0 < (jfs (jad ω) (σ c0) tm).length := by unfold jfs; rw [List.length_mapIdx]; exact (List.getElem?_eq_some_iff.mp ht).1
  refine va_put (D := jD ω) (ci := ci) (v := .int (jI x)) (ty := .int) (C := C) (T := T) (N := N) hx hb hts j1 ty j2 j3 hown hK hP (jWO_D hI σ) hS c0 (jWO_at hs) h1 k0 h2 (hts _ h3) (fun _ h9 => h9) hfin.1 hfin.2 rfl rfl hlen hd (fun H1 locs1 hP1 hD1 hS1 => ?_)
  rw [jWO_set (i := k0) (v := x) hs (by rw [jup_self]; show (Sum.inr (ci, _) : va_E) = _; rw [jfs_set ht])] at hP1
  exact k p l e R s m args below meth c cells slots Q ω hΨ ls H1 locs1 hl hP1 hS1
theorem jr_iald {c0 n : Nat} {x : Int} (j : Nat) (G : jG Ψ B own d) (hd : decode B pc = .ok (.iaload, 1)) (hp : pc + 1 = pc') (hs : jsh[c0]? = some (.inl (0, n))) (hj : x = (j : Int)) (hi : j < n) (hn : n < 2147483648) (k : jV Ψ pc' lv (.int (jI (σ c0 j)) :: st) σ) : jV Ψ pc lv (.int (jI x) :: .ref c0 :: st) σ := by
  subst hp
  intro p l e R s m args below meth c cells slots Q ω hΨ ls H locs hl hP hS
  obtain ⟨hx, hb, hown, hts, hnw, hK, hI, hfr, hlo, hce, hsl⟩ := G p l e R s m args below meth c cells slots Q ω hΨ
  subst hj
  refine va_iald hx hb hK hP c0 0 (jWO_at hs) rfl (jI_in hi hn) hd ?_
  rw [jI_clamp (by omega)]
  exact k p l e R s m args below meth c cells slots Q ω hΨ ls H locs hl hP hS
theorem jr_zald {c0 n : Nat} {x : Int} (j : Nat) (G : jG Ψ B own d) (hd : decode B pc = .ok (.baload, 1)) (hp : pc + 1 = pc') (hs : jsh[c0]? = some (.inl (2, n))) (hj : x = (j : Int)) (hi : j < n) (hn : n < 2147483648) (k : jV Ψ pc' lv (.int (jI (σ c0 j)) :: st) σ) : jV Ψ pc lv (.int (jI x) :: .ref c0 :: st) σ := by
  subst hp
  intro p l e R s m args below meth c cells slots Q ω hΨ ls H locs hl hP hS
  obtain ⟨hx, hb, hown, hts, hnw, hK, hI, hfr, hlo, hce, hsl⟩ := G p l e R s m args below meth c cells slots Q ω hΨ
  subst hj
  refine va_zald hx hb hK hP c0 2 (jWO_at hs) rfl (jI_in hi hn) hd ?_
  rw [jI_clamp (by omega)]
  exact k p l e R s m args below meth c cells slots Q ω hΨ ls H locs hl hP hS
theorem jr_lald {c0 n : Nat} {x : Int} (j : Nat) (G : jG Ψ B own d) (hd : decode B pc = .ok (.laload, 1)) (hp : pc + 1 = pc') (hs : jsh[c0]? = some (.inl (1, n))) (hj : x = (j : Int)) (hi : j < n) (hn : n < 2147483648) (k : jV Ψ pc' lv (.long (jL (σ c0 j)) :: st) σ) : jV Ψ pc lv (.int (jI x) :: .ref c0 :: st) σ := by
  subst hp
  intro p l e R s m args below meth c cells slots Q ω hΨ ls H locs hl hP hS
  obtain ⟨hx, hb, hown, hts, hnw, hK, hI, hfr, hlo, hce, hsl⟩ := G p l e R s m args below meth c cells slots Q ω hΨ
  subst hj
  refine va_lald hx hb hK hP c0 1 (jWO_at hs) rfl (jI_in hi hn) hd ?_
  rw [jI_clamp (by omega)]
  exact k p l e R s m args below meth c cells slots Q ω hΨ ls H locs hl hP hS
theorem jr_iast {c0 n : Nat} {x y : Int} (j : Nat) (G : jG Ψ B own d) (hd : decode B pc = .ok (.iastore, 1)) (hp : pc + 1 = pc') (hs : jsh[c0]? = some (.inl (0, n))) (hj : x = (j : Int)) (hi : j < n) (hn : n < 2147483648) (k : jV Ψ pc' lv st (jup σ c0 j y)) : jV Ψ pc lv (.int (jI y) :: .int (jI x) :: .ref c0 :: st) σ := by
  subst hp
  intro p l e R s m args below meth c cells slots Q ω hΨ ls H locs hl hP hS
  obtain ⟨hx, hb, hown, hts, hnw, hK, hI, hfr, hlo, hce, hsl⟩ := G p l e R s m args below meth c cells slots Q ω hΨ
  subst hj
  refine va_iast hx hb hK hP (jWO_D hI σ) hS c0 0 (jWO_at hs) rfl (jI_in hi hn) hd (fun H1 locs1 hP1 hD1 hS1 => ?_)
  rw [jI_clamp (by omega), jWO_set (i := j) (v := y) hs (by
    rw [jup_self]
    show (Sum.inl (_, n, Sum.inl _) : va_E) = _
    congr 3
    congr 1
    funext q
    unfold upd
    show jI (if q = j then y else σ c0 q) = if q = j then jI y else jI (σ c0 q)
    split <;> rfl)] at hP1
  exact k p l e R s m args below meth c cells slots Q ω hΨ ls H1 locs1 hl hP1 hS1
theorem jr_last {c0 n : Nat} {x y : Int} (j : Nat) (G : jG Ψ B own d) (hd : decode B pc = .ok (.lastore, 1)) (hp : pc + 1 = pc') (hs : jsh[c0]? = some (.inl (1, n))) (hj : x = (j : Int)) (hi : j < n) (hn : n < 2147483648) (k : jV Ψ pc' lv st (jup σ c0 j y)) : jV Ψ pc lv (.long (jL y) :: .int (jI x) :: .ref c0 :: st) σ := by
  subst hp
  intro p l e R s m args below meth c cells slots Q ω hΨ ls H locs hl hP hS
  obtain ⟨hx, hb, hown, hts, hnw, hK, hI, hfr, hlo, hce, hsl⟩ := G p l e R s m args below meth c cells slots Q ω hΨ
  subst hj
  refine va_last hx hb hK hP (jWO_D hI σ) hS c0 1 (jWO_at hs) rfl (jI_in hi hn) hd (fun H1 locs1 hP1 hD1 hS1 => ?_)
  rw [jI_clamp (by omega), jWO_set (i := j) (v := y) hs (by
    rw [jup_self]
    show (Sum.inl (_, n, Sum.inr (Sum.inl _)) : va_E) = _
    congr 4
    congr 1
    funext q
    unfold vp_updL
    show jL (if q = j then y else σ c0 q) = if q = j then jL y else jL (σ c0 q)
    split <;> rfl)] at hP1
  exact k p l e R s m args below meth c cells slots Q ω hΨ ls H1 locs1 hl hP1 hS1
theorem jr_zast {c0 n : Nat} {x y : Int} (j : Nat) (G : jG Ψ B own d) (hd : decode B pc = .ok (.bastore, 1)) (hp : pc + 1 = pc') (hs : jsh[c0]? = some (.inl (2, n))) (hj : x = (j : Int)) (hi : j < n) (hn : n < 2147483648) (hy : y = 0 ∨ y = 1) (k : jV Ψ pc' lv st (jup σ c0 j y)) : jV Ψ pc lv (.int (jI y) :: .int (jI x) :: .ref c0 :: st) σ := by
  subst hp
  intro p l e R s m args below meth c cells slots Q ω hΨ ls H locs hl hP hS
  obtain ⟨hx, hb, hown, hts, hnw, hK, hI, hfr, hlo, hce, hsl⟩ := G p l e R s m args below meth c cells slots Q ω hΨ
  subst hj
  have hnr : vp_nar .boolean (jI y) = jI y := by rcases hy with rfl | rfl <;> rfl
  refine va_zast hx hb hK hP (jWO_D hI σ) hS c0 2 (jWO_at hs) rfl (jI_in hi hn) hd (fun H1 locs1 hP1 hD1 hS1 => ?_)
  rw [jI_clamp (by omega), hnr, jWO_set (i := j) (v := y) hs (by
    rw [jup_self]
    show (Sum.inl (_, n, Sum.inl _) : va_E) = _
    congr 3
    congr 1
    funext q
    unfold upd
    show jI (if q = j then y else σ c0 q) = if q = j then jI y else jI (σ c0 q)
    split <;> rfl)] at hP1
  exact k p l e R s m args below meth c cells slots Q ω hΨ ls H1 locs1 hl hP1 hS1
theorem jr_alen {c0 n : Nat} (G : jG Ψ B own d) (hd : decode B pc = .ok (.arraylength, 1)) (hp : pc + 1 = pc') (hs : jsh[c0]? = some (.inl (0, n))) (k : jV Ψ pc' lv (.int (jI (n : Int)) :: st) σ) : jV Ψ pc lv (.ref c0 :: st) σ := by
  subst hp
  intro p l e R s m args below meth c cells slots Q ω hΨ ls H locs hl hP hS
  obtain ⟨hx, hb, hown, hts, hnw, hK, hI, hfr, hlo, hce, hsl⟩ := G p l e R s m args below meth c cells slots Q ω hΨ
  refine va_alen (ty := .int) (v := jI (n : Int)) hx hb hK hP c0 0 (jWO_at hs) rfl rfl hd ?_
  exact k p l e R s m args below meth c cells slots Q ω hΨ ls H locs hl hP hS
end jRows2
section jEnds
variable {M : jM} {d pc : Nat} {K : Option Value → jMem → Prop} {lv : List (Option Value)} {σ : jMem}
theorem jr_ireturn {x : Int} (hd : decode M.2.1 pc = .ok (.ireturn, 1)) (hr : M.2.2.2 = some .int) (k : K (some (.int (jI x))) σ) : jV (jP M d K) pc lv [.int (jI x)] σ := by
  intro p l e R s m args below meth c cells slots Q ω hΨ ls H locs hl hP hS
  obtain ⟨h1, h2, h3, h4, h5, h6, h7, h8, h9, h10, h11, h12, h13, h14⟩ := hΨ
  subst h12; subst h13; subst h14
  exact W.iret (v := jI x) h1 h2 (h4.trans hr) (fun t ht hW => ⟨some (.int (jI x)), σ, rfl, k, by rw [ht]; exact hP, hS.F ht⟩) hS.2.2 hd
theorem jr_zreturn {x : Int} (hd : decode M.2.1 pc = .ok (.ireturn, 1)) (hr : M.2.2.2 = some .boolean) (hx : x = 0 ∨ x = 1) (k : K (some (.int (jI x))) σ) : jV (jP M d K) pc lv [.int (jI x)] σ := by
  intro p l e R s m args below meth c cells slots Q ω hΨ ls H locs hl hP hS
  obtain ⟨h1, h2, h3, h4, h5, h6, h7, h8, h9, h10, h11, h12, h13, h14⟩ := hΨ
  subst h12; subst h13; subst h14
  exact W.zret (v := jI x) (ty := .boolean) h1 h2 (h4.trans hr) (by rcases hx with rfl | rfl <;> rfl) (fun t ht hW => ⟨some (.int (jI x)), σ, rfl, k, by rw [ht]; exact hP, hS.F ht⟩) hS.2.2 hd
theorem jr_lreturn {x : Int} (hd : decode M.2.1 pc = .ok (.lreturn, 1)) (hr : M.2.2.2 = some .long) (k : K (some (.long (jL x))) σ) : jV (jP M d K) pc lv [.long (jL x)] σ := by
  intro p l e R s m args below meth c cells slots Q ω hΨ ls H locs hl hP hS
  obtain ⟨h1, h2, h3, h4, h5, h6, h7, h8, h9, h10, h11, h12, h13, h14⟩ := hΨ
  subst h12; subst h13; subst h14
  exact W.lret (v := jL x) h1 h2 (h4.trans hr) (fun t ht hW => ⟨some (.long (jL x)), σ, rfl, k, by rw [ht]; exact hP, hS.F ht⟩) hS.2.2 hd
theorem jr_vreturn (hd : decode M.2.1 pc = .ok (.return_, 1)) (hr : M.2.2.2 = none) (k : K none σ) : jV (jP M d K) pc lv [] σ := by
  intro p l e R s m args below meth c cells slots Q ω hΨ ls H locs hl hP hS
  obtain ⟨h1, h2, h3, h4, h5, h6, h7, h8, h9, h10, h11, h12, h13, h14⟩ := hΨ
  subst h12; subst h13; subst h14
  exact W.vret h1 h2 (h4.trans hr) (fun t ht hW => ⟨none, σ, rfl, k, by rw [ht]; exact hP, hS.F ht⟩) hS.2.2 hd
end jEnds
end
