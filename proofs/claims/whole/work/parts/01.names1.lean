-- ===== PART A: goes FIRST, ahead of the names: the tables' words, and 'selects' of the private methods out of them =====
/-- a private method of a class that the tables say can be made, by its rows of tables_1 -/
def lw_okq (q : MethodName × Nat) : Prop := (q.1.cls ≠ "java/lang/invoke/MethodHandle" ∧ q.1.cls ≠ "java/lang/invoke/VarHandle") ∧ Cond.instantiable q.1.cls q.2 ∈ tables_1 ∧ Cond.privateMethod q.1 ∈ tables_1 ∧ Cond.instanceMethod q.1 ∈ tables_1
theorem lw_p0 : lw_okq (⟨"WovenRows$Rows", "reasonAgainst", "(III)I"⟩, 3) := ⟨⟨by decide +kernel, by decide +kernel⟩, List.mem_of_getElem? (i := 30) (by decide +kernel), List.mem_of_getElem? (i := 390) (by decide +kernel), List.mem_of_getElem? (i := 391) (by decide +kernel)⟩
theorem lw_p1 : lw_okq (⟨"WovenRows$Rows", "reasonAgainstJoining", "(II)I"⟩, 3) := ⟨⟨by decide +kernel, by decide +kernel⟩, List.mem_of_getElem? (i := 30) (by decide +kernel), List.mem_of_getElem? (i := 394) (by decide +kernel), List.mem_of_getElem? (i := 395) (by decide +kernel)⟩
theorem lw_p2 : lw_okq (⟨"WovenRows$Rows", "carryOut", "(III)V"⟩, 3) := ⟨⟨by decide +kernel, by decide +kernel⟩, List.mem_of_getElem? (i := 30) (by decide +kernel), List.mem_of_getElem? (i := 403) (by decide +kernel), List.mem_of_getElem? (i := 404) (by decide +kernel)⟩
theorem lw_p3 : lw_okq (⟨"WovenRows$Rows", "join", "(II)V"⟩, 3) := ⟨⟨by decide +kernel, by decide +kernel⟩, List.mem_of_getElem? (i := 30) (by decide +kernel), List.mem_of_getElem? (i := 407) (by decide +kernel), List.mem_of_getElem? (i := 408) (by decide +kernel)⟩
theorem lw_p4 : lw_okq (⟨"WovenRows$Rows", "leave", "(I)V"⟩, 3) := ⟨⟨by decide +kernel, by decide +kernel⟩, List.mem_of_getElem? (i := 30) (by decide +kernel), List.mem_of_getElem? (i := 412) (by decide +kernel), List.mem_of_getElem? (i := 413) (by decide +kernel)⟩
theorem lw_p5 : lw_okq (⟨"WovenRows", "daysCanBe", "()Z"⟩, 12) := ⟨⟨by decide +kernel, by decide +kernel⟩, List.mem_of_getElem? (i := 16) (by decide +kernel), List.mem_of_getElem? (i := 423) (by decide +kernel), List.mem_of_getElem? (i := 424) (by decide +kernel)⟩
theorem lw_p6 : lw_okq (⟨"WovenRows$Meetings", "countOf", "(LWovenRows$Town;I)V"⟩, 5) := ⟨⟨by decide +kernel, by decide +kernel⟩, List.mem_of_getElem? (i := 150) (by decide +kernel), List.mem_of_getElem? (i := 453) (by decide +kernel), List.mem_of_getElem? (i := 454) (by decide +kernel)⟩
theorem lw_p7 : lw_okq (⟨"WovenRows$Meetings", "noteClash", "(III)V"⟩, 5) := ⟨⟨by decide +kernel, by decide +kernel⟩, List.mem_of_getElem? (i := 150) (by decide +kernel), List.mem_of_getElem? (i := 473) (by decide +kernel), List.mem_of_getElem? (i := 474) (by decide +kernel)⟩
theorem lw_p8 : lw_okq (⟨"WovenRows$Orders", "all", "()I"⟩, 4) := ⟨⟨by decide +kernel, by decide +kernel⟩, List.mem_of_getElem? (i := 176) (by decide +kernel), List.mem_of_getElem? (i := 508) (by decide +kernel), List.mem_of_getElem? (i := 509) (by decide +kernel)⟩
theorem lw_p9 : lw_okq (⟨"WovenRows$Orders", "fewestOf", "(I)I"⟩, 4) := ⟨⟨by decide +kernel, by decide +kernel⟩, List.mem_of_getElem? (i := 176) (by decide +kernel), List.mem_of_getElem? (i := 512) (by decide +kernel), List.mem_of_getElem? (i := 513) (by decide +kernel)⟩
theorem lw_p10 : lw_okq (⟨"WovenRows$Orders", "ledBy", "(II)I"⟩, 4) := ⟨⟨by decide +kernel, by decide +kernel⟩, List.mem_of_getElem? (i := 176) (by decide +kernel), List.mem_of_getElem? (i := 519) (by decide +kernel), List.mem_of_getElem? (i := 520) (by decide +kernel)⟩
theorem lw_p11 : lw_okq (⟨"WovenRows$Orders", "mayLead", "(LWovenRows$Pairs;II)Z"⟩, 4) := ⟨⟨by decide +kernel, by decide +kernel⟩, List.mem_of_getElem? (i := 176) (by decide +kernel), List.mem_of_getElem? (i := 597) (by decide +kernel), List.mem_of_getElem? (i := 598) (by decide +kernel)⟩
theorem lw_p12 : lw_okq (⟨"WovenRows$Orders", "holdsMember", "(II)Z"⟩, 4) := ⟨⟨by decide +kernel, by decide +kernel⟩, List.mem_of_getElem? (i := 176) (by decide +kernel), List.mem_of_getElem? (i := 601) (by decide +kernel), List.mem_of_getElem? (i := 602) (by decide +kernel)⟩
theorem lw_p13 : lw_okq (⟨"WovenRows$Odds", "weigh", "(II)V"⟩, 3) := ⟨⟨by decide +kernel, by decide +kernel⟩, List.mem_of_getElem? (i := 238) (by decide +kernel), List.mem_of_getElem? (i := 656) (by decide +kernel), List.mem_of_getElem? (i := 657) (by decide +kernel)⟩
theorem lw_p14 : lw_okq (⟨"WovenRows", "imageOf", "(I)LWovenRows$Town;"⟩, 12) := ⟨⟨by decide +kernel, by decide +kernel⟩, List.mem_of_getElem? (i := 16) (by decide +kernel), List.mem_of_getElem? (i := 684) (by decide +kernel), List.mem_of_getElem? (i := 685) (by decide +kernel)⟩
theorem lw_p15 : lw_okq (⟨"WovenRows", "toldCount", "(I)I"⟩, 12) := ⟨⟨by decide +kernel, by decide +kernel⟩, List.mem_of_getElem? (i := 16) (by decide +kernel), List.mem_of_getElem? (i := 696) (by decide +kernel), List.mem_of_getElem? (i := 697) (by decide +kernel)⟩
def lw_privs_1 : List (MethodName × Nat) := [(⟨"WovenRows$Rows", "reasonAgainst", "(III)I"⟩, 3), (⟨"WovenRows$Rows", "reasonAgainstJoining", "(II)I"⟩, 3), (⟨"WovenRows$Rows", "carryOut", "(III)V"⟩, 3), (⟨"WovenRows$Rows", "join", "(II)V"⟩, 3), (⟨"WovenRows$Rows", "leave", "(I)V"⟩, 3), (⟨"WovenRows", "daysCanBe", "()Z"⟩, 12), (⟨"WovenRows$Meetings", "countOf", "(LWovenRows$Town;I)V"⟩, 5), (⟨"WovenRows$Meetings", "noteClash", "(III)V"⟩, 5), (⟨"WovenRows$Orders", "all", "()I"⟩, 4), (⟨"WovenRows$Orders", "fewestOf", "(I)I"⟩, 4), (⟨"WovenRows$Orders", "ledBy", "(II)I"⟩, 4), (⟨"WovenRows$Orders", "mayLead", "(LWovenRows$Pairs;II)Z"⟩, 4), (⟨"WovenRows$Orders", "holdsMember", "(II)Z"⟩, 4), (⟨"WovenRows$Odds", "weigh", "(II)V"⟩, 3), (⟨"WovenRows", "imageOf", "(I)LWovenRows$Town;"⟩, 12), (⟨"WovenRows", "toldCount", "(I)I"⟩, 12)]
theorem lw_r1 : ∀ q ∈ lw_privs_1, lw_okq q := List.forall_mem_cons.mpr ⟨lw_p0, List.forall_mem_cons.mpr ⟨lw_p1, List.forall_mem_cons.mpr ⟨lw_p2, List.forall_mem_cons.mpr ⟨lw_p3, List.forall_mem_cons.mpr ⟨lw_p4, List.forall_mem_cons.mpr ⟨lw_p5, List.forall_mem_cons.mpr ⟨lw_p6, List.forall_mem_cons.mpr ⟨lw_p7, List.forall_mem_cons.mpr ⟨lw_p8, List.forall_mem_cons.mpr ⟨lw_p9, List.forall_mem_cons.mpr ⟨lw_p10, List.forall_mem_cons.mpr ⟨lw_p11, List.forall_mem_cons.mpr ⟨lw_p12, List.forall_mem_cons.mpr ⟨lw_p13, List.forall_mem_cons.mpr ⟨lw_p14, List.forall_mem_cons.mpr ⟨lw_p15, fun _ h => absurd h List.not_mem_nil⟩⟩⟩⟩⟩⟩⟩⟩⟩⟩⟩⟩⟩⟩⟩⟩
theorem lw_p16 : lw_okq (⟨"WovenRowsModel", "faultOf", "()I"⟩, 30) := ⟨⟨by decide +kernel, by decide +kernel⟩, List.mem_of_getElem? (i := 700) (by decide +kernel), List.mem_of_getElem? (i := 831) (by decide +kernel), List.mem_of_getElem? (i := 832) (by decide +kernel)⟩
theorem lw_p17 : lw_okq (⟨"WovenRowsModel", "goDays", "()I"⟩, 30) := ⟨⟨by decide +kernel, by decide +kernel⟩, List.mem_of_getElem? (i := 700) (by decide +kernel), List.mem_of_getElem? (i := 842) (by decide +kernel), List.mem_of_getElem? (i := 843) (by decide +kernel)⟩
theorem lw_p18 : lw_okq (⟨"WovenRowsModel", "asNow", "()V"⟩, 30) := ⟨⟨by decide +kernel, by decide +kernel⟩, List.mem_of_getElem? (i := 700) (by decide +kernel), List.mem_of_getElem? (i := 846) (by decide +kernel), List.mem_of_getElem? (i := 847) (by decide +kernel)⟩
theorem lw_p19 : lw_okq (⟨"WovenRowsModel", "ring", "()I"⟩, 30) := ⟨⟨by decide +kernel, by decide +kernel⟩, List.mem_of_getElem? (i := 700) (by decide +kernel), List.mem_of_getElem? (i := 850) (by decide +kernel), List.mem_of_getElem? (i := 851) (by decide +kernel)⟩
theorem lw_p20 : lw_okq (⟨"WovenRowsModel", "change", "(II)I"⟩, 30) := ⟨⟨by decide +kernel, by decide +kernel⟩, List.mem_of_getElem? (i := 700) (by decide +kernel), List.mem_of_getElem? (i := 854) (by decide +kernel), List.mem_of_getElem? (i := 855) (by decide +kernel)⟩
theorem lw_p21 : lw_okq (⟨"WovenRowsModel", "spotOf", "(I)I"⟩, 30) := ⟨⟨by decide +kernel, by decide +kernel⟩, List.mem_of_getElem? (i := 700) (by decide +kernel), List.mem_of_getElem? (i := 858) (by decide +kernel), List.mem_of_getElem? (i := 859) (by decide +kernel)⟩
theorem lw_p22 : lw_okq (⟨"WovenRowsModel", "goHome", "(I)I"⟩, 30) := ⟨⟨by decide +kernel, by decide +kernel⟩, List.mem_of_getElem? (i := 700) (by decide +kernel), List.mem_of_getElem? (i := 862) (by decide +kernel), List.mem_of_getElem? (i := 863) (by decide +kernel)⟩
theorem lw_p23 : lw_okq (⟨"WovenRowsModel", "join", "(II)I"⟩, 30) := ⟨⟨by decide +kernel, by decide +kernel⟩, List.mem_of_getElem? (i := 700) (by decide +kernel), List.mem_of_getElem? (i := 866) (by decide +kernel), List.mem_of_getElem? (i := 867) (by decide +kernel)⟩
theorem lw_p24 : lw_okq (⟨"WovenRowsModel", "barOfDays", "()I"⟩, 30) := ⟨⟨by decide +kernel, by decide +kernel⟩, List.mem_of_getElem? (i := 700) (by decide +kernel), List.mem_of_getElem? (i := 874) (by decide +kernel), List.mem_of_getElem? (i := 875) (by decide +kernel)⟩
theorem lw_p25 : lw_okq (⟨"WovenRowsModel", "plain", "()V"⟩, 30) := ⟨⟨by decide +kernel, by decide +kernel⟩, List.mem_of_getElem? (i := 700) (by decide +kernel), List.mem_of_getElem? (i := 894) (by decide +kernel), List.mem_of_getElem? (i := 895) (by decide +kernel)⟩
theorem lw_p26 : lw_okq (⟨"WovenRowsModel", "layMeetings", "()V"⟩, 30) := ⟨⟨by decide +kernel, by decide +kernel⟩, List.mem_of_getElem? (i := 700) (by decide +kernel), List.mem_of_getElem? (i := 898) (by decide +kernel), List.mem_of_getElem? (i := 899) (by decide +kernel)⟩
theorem lw_p27 : lw_okq (⟨"WovenRowsModel", "spot", "(II)I"⟩, 30) := ⟨⟨by decide +kernel, by decide +kernel⟩, List.mem_of_getElem? (i := 700) (by decide +kernel), List.mem_of_getElem? (i := 902) (by decide +kernel), List.mem_of_getElem? (i := 903) (by decide +kernel)⟩
theorem lw_p28 : lw_okq (⟨"WovenRowsModel", "doClear", "(II)Z"⟩, 30) := ⟨⟨by decide +kernel, by decide +kernel⟩, List.mem_of_getElem? (i := 700) (by decide +kernel), List.mem_of_getElem? (i := 906) (by decide +kernel), List.mem_of_getElem? (i := 907) (by decide +kernel)⟩
theorem lw_p29 : lw_okq (⟨"WovenRowsModel", "widthOf", "(I)I"⟩, 30) := ⟨⟨by decide +kernel, by decide +kernel⟩, List.mem_of_getElem? (i := 700) (by decide +kernel), List.mem_of_getElem? (i := 910) (by decide +kernel), List.mem_of_getElem? (i := 911) (by decide +kernel)⟩
theorem lw_p30 : lw_okq (⟨"WovenRowsModel", "layOrders", "(I)V"⟩, 30) := ⟨⟨by decide +kernel, by decide +kernel⟩, List.mem_of_getElem? (i := 700) (by decide +kernel), List.mem_of_getElem? (i := 922) (by decide +kernel), List.mem_of_getElem? (i := 923) (by decide +kernel)⟩
theorem lw_p31 : lw_okq (⟨"WovenRowsModel", "layRow", "(II)I"⟩, 30) := ⟨⟨by decide +kernel, by decide +kernel⟩, List.mem_of_getElem? (i := 700) (by decide +kernel), List.mem_of_getElem? (i := 927) (by decide +kernel), List.mem_of_getElem? (i := 928) (by decide +kernel)⟩
def lw_privs_2 : List (MethodName × Nat) := [(⟨"WovenRowsModel", "faultOf", "()I"⟩, 30), (⟨"WovenRowsModel", "goDays", "()I"⟩, 30), (⟨"WovenRowsModel", "asNow", "()V"⟩, 30), (⟨"WovenRowsModel", "ring", "()I"⟩, 30), (⟨"WovenRowsModel", "change", "(II)I"⟩, 30), (⟨"WovenRowsModel", "spotOf", "(I)I"⟩, 30), (⟨"WovenRowsModel", "goHome", "(I)I"⟩, 30), (⟨"WovenRowsModel", "join", "(II)I"⟩, 30), (⟨"WovenRowsModel", "barOfDays", "()I"⟩, 30), (⟨"WovenRowsModel", "plain", "()V"⟩, 30), (⟨"WovenRowsModel", "layMeetings", "()V"⟩, 30), (⟨"WovenRowsModel", "spot", "(II)I"⟩, 30), (⟨"WovenRowsModel", "doClear", "(II)Z"⟩, 30), (⟨"WovenRowsModel", "widthOf", "(I)I"⟩, 30), (⟨"WovenRowsModel", "layOrders", "(I)V"⟩, 30), (⟨"WovenRowsModel", "layRow", "(II)I"⟩, 30)]
theorem lw_r2 : ∀ q ∈ lw_privs_2, lw_okq q := List.forall_mem_cons.mpr ⟨lw_p16, List.forall_mem_cons.mpr ⟨lw_p17, List.forall_mem_cons.mpr ⟨lw_p18, List.forall_mem_cons.mpr ⟨lw_p19, List.forall_mem_cons.mpr ⟨lw_p20, List.forall_mem_cons.mpr ⟨lw_p21, List.forall_mem_cons.mpr ⟨lw_p22, List.forall_mem_cons.mpr ⟨lw_p23, List.forall_mem_cons.mpr ⟨lw_p24, List.forall_mem_cons.mpr ⟨lw_p25, List.forall_mem_cons.mpr ⟨lw_p26, List.forall_mem_cons.mpr ⟨lw_p27, List.forall_mem_cons.mpr ⟨lw_p28, List.forall_mem_cons.mpr ⟨lw_p29, List.forall_mem_cons.mpr ⟨lw_p30, List.forall_mem_cons.mpr ⟨lw_p31, fun _ h => absurd h List.not_mem_nil⟩⟩⟩⟩⟩⟩⟩⟩⟩⟩⟩⟩⟩⟩⟩⟩
theorem lw_p32 : lw_okq (⟨"WovenRowsModel", "keepsRules", "(I)Z"⟩, 30) := ⟨⟨by decide +kernel, by decide +kernel⟩, List.mem_of_getElem? (i := 700) (by decide +kernel), List.mem_of_getElem? (i := 934) (by decide +kernel), List.mem_of_getElem? (i := 935) (by decide +kernel)⟩
theorem lw_p33 : lw_okq (⟨"WovenRowsModel", "grating", "(I)I"⟩, 30) := ⟨⟨by decide +kernel, by decide +kernel⟩, List.mem_of_getElem? (i := 700) (by decide +kernel), List.mem_of_getElem? (i := 950) (by decide +kernel), List.mem_of_getElem? (i := 951) (by decide +kernel)⟩
theorem lw_p34 : lw_okq (⟨"WovenRowsModel", "fits", "(II)Z"⟩, 30) := ⟨⟨by decide +kernel, by decide +kernel⟩, List.mem_of_getElem? (i := 700) (by decide +kernel), List.mem_of_getElem? (i := 978) (by decide +kernel), List.mem_of_getElem? (i := 979) (by decide +kernel)⟩
theorem lw_p35 : lw_okq (⟨"WovenRowsModel", "cellOf", "(III)I"⟩, 30) := ⟨⟨by decide +kernel, by decide +kernel⟩, List.mem_of_getElem? (i := 700) (by decide +kernel), List.mem_of_getElem? (i := 982) (by decide +kernel), List.mem_of_getElem? (i := 983) (by decide +kernel)⟩
def lw_privs_3 : List (MethodName × Nat) := [(⟨"WovenRowsModel", "keepsRules", "(I)Z"⟩, 30), (⟨"WovenRowsModel", "grating", "(I)I"⟩, 30), (⟨"WovenRowsModel", "fits", "(II)Z"⟩, 30), (⟨"WovenRowsModel", "cellOf", "(III)I"⟩, 30)]
theorem lw_r3 : ∀ q ∈ lw_privs_3, lw_okq q := List.forall_mem_cons.mpr ⟨lw_p32, List.forall_mem_cons.mpr ⟨lw_p33, List.forall_mem_cons.mpr ⟨lw_p34, List.forall_mem_cons.mpr ⟨lw_p35, fun _ h => absurd h List.not_mem_nil⟩⟩⟩⟩
def lw_privs : List (MethodName × Nat) := lw_privs_1 ++ (lw_privs_2 ++ (lw_privs_3))
def lw_tbl : List Cond := k2_sels lw_privs ++ tables_1
theorem lw_privs_ok : ∀ q ∈ lw_privs, lw_okq q := by
  show ∀ q ∈ lw_privs_1 ++ (lw_privs_2 ++ (lw_privs_3)), lw_okq q
  exact List.forall_mem_append.mpr ⟨lw_r1, List.forall_mem_append.mpr ⟨lw_r2, lw_r3⟩⟩
/-! ===== BEGIN words of one list among another's, by their places ===== -/
theorem goodIn_r {big : List Cond} (ws : List Cond) (ps : List Nat) (hp : ws = ps.filterMap (fun i => big[i]?)) (h : ws.all goodWord = true) : GoodIn big ws := by
  intro w hw
  have h1 := List.all_eq_true.mp h w hw
  rw [hp] at hw
  obtain ⟨i, -, hi⟩ := List.mem_filterMap.mp hw
  have hm : w ∈ big := by first | exact List.mem_of_getElem? hi | exact List.getElem?_mem hi
  exact ⟨hm, good_of_word h1⟩
theorem goodIn_app {big a b : List Cond} (ha : GoodIn big a) (hb : GoodIn big b) : GoodIn big (a ++ b) := fun w h => (List.mem_append.mp h).elim (ha w) (hb w)
theorem goodIn_ca {big a b : List Cond} {c : Cond} (ha : GoodIn big (c :: a)) (hb : GoodIn big b) : GoodIn big (c :: (a ++ b)) := fun w h => (List.mem_cons.mp h).elim (fun e => ha w (List.mem_cons.mpr (Or.inl e))) (fun h => (List.mem_append.mp h).elim (fun h => ha w (List.mem_cons.mpr (Or.inr h))) (hb w))
theorem goodIn_sub {big ws : List Cond} (hm : ∀ w ∈ ws, w ∈ big) (h : ws.all goodWord = true) : GoodIn big ws := fun w hw => ⟨hm w hw, good_of_word (List.all_eq_true.mp h w hw)⟩
/-! ===== END ===== -/

/-! ===== BEGIN printed: names, fields, word lists, decode rows ===== -/
def RX0 : String := "WovenRows$Fewest"
def TX0 : u_T := fun k => match k with
  | 0 => ("WovenRows$Fewest", "by", "I", false)
  | _ => ("WovenRows$Fewest", "count", "I", false)
def tyX0 : Nat → FieldType := fun k => match k with
  | 0 => .int
  | _ => .int
abbrev wsX00 : List Cond := u_ws RX0 TX0 2
theorem nmX0 : ∀ a, a < 2 → ∀ b, b < 2 → a ≠ b → (TX0 a).2.1 ≠ (TX0 b).2.1 := by decide +kernel
theorem tyX0_ok : ∀ k, k < 2 → parseFieldDescriptor (TX0 k).2.2.1 = some (tyX0 k) := by decide +kernel
abbrev cX0_init : ByteArray := prog_2_method_1_code
def yX0_init : MethodName := ⟨RX0, "<init>", "()V"⟩
abbrev cX0_begin : ByteArray := prog_2_method_2_code
def yX0_begin : MethodName := ⟨RX0, "begin", "()V"⟩
abbrev cX0_offer : ByteArray := prog_2_method_3_code
def yX0_offer : MethodName := ⟨RX0, "offer", "(II)V"⟩
def RX1 : String := "WovenRows$Meetings"
def TX1 : u_T := fun k => match k with
  | 0 => ("WovenRows$Meetings", "twos", "I", false)
  | 1 => ("WovenRows$Meetings", "clashes", "I", false)
  | 2 => ("WovenRows$Meetings", "first", "I", false)
  | 3 => ("WovenRows$Meetings", "where", "I", false)
  | _ => ("WovenRows$Meetings", "firstTurn", "I", false)
def tyX1 : Nat → FieldType := fun k => match k with
  | 0 => .int
  | 1 => .int
  | 2 => .int
  | 3 => .int
  | _ => .int
abbrev wsX10 : List Cond := u_ws RX1 TX1 5
theorem nmX1 : ∀ a, a < 5 → ∀ b, b < 5 → a ≠ b → (TX1 a).2.1 ≠ (TX1 b).2.1 := by decide +kernel
theorem tyX1_ok : ∀ k, k < 5 → parseFieldDescriptor (TX1 k).2.2.1 = some (tyX1 k) := by decide +kernel
abbrev cX1_init : ByteArray := prog_3_method_1_code
def yX1_init : MethodName := ⟨RX1, "<init>", "()V"⟩
abbrev cX1_count : ByteArray := prog_3_method_2_code
def yX1_count : MethodName := ⟨RX1, "count", "(LWovenRows$Town;)V"⟩
abbrev cX1_countOf : ByteArray := prog_3_method_3_code
def yX1_countOf : MethodName := ⟨RX1, "countOf", "(LWovenRows$Town;I)V"⟩
abbrev cX1_noteClash : ByteArray := prog_3_method_4_code
def yX1_noteClash : MethodName := ⟨RX1, "noteClash", "(III)V"⟩
abbrev cX1_grating : ByteArray := prog_3_method_5_code
def yX1_grating : MethodName := ⟨RX1, "grating", "(LWovenRows$Town;I)I"⟩
abbrev cX1_gratingWith : ByteArray := prog_3_method_6_code
def yX1_gratingWith : MethodName := ⟨RX1, "gratingWith", "(LWovenRows$Town;II)I"⟩
def RX2 : String := "WovenRows$Odds"
def TX2 : u_T := fun k => match k with
  | 0 => ("WovenRows$Odds", "weights", "[J", true)
  | 1 => ("WovenRows$Odds", "upper", "J", false)
  | _ => ("WovenRows$Odds", "lower", "J", false)
def tyX2 : Nat → FieldType := fun k => match k with
  | 0 => .array .long
  | 1 => .long
  | _ => .long
abbrev wsX20 : List Cond := u_ws RX2 TX2 3
theorem nmX2 : ∀ a, a < 3 → ∀ b, b < 3 → a ≠ b → (TX2 a).2.1 ≠ (TX2 b).2.1 := by decide +kernel
theorem tyX2_ok : ∀ k, k < 3 → parseFieldDescriptor (TX2 k).2.2.1 = some (tyX2 k) := by decide +kernel
abbrev cX2_init : ByteArray := prog_4_method_1_code
def yX2_init : MethodName := ⟨RX2, "<init>", "()V"⟩
abbrev cX2_reckon : ByteArray := prog_4_method_2_code
def yX2_reckon : MethodName := ⟨RX2, "reckon", "(III)V"⟩
abbrev cX2_weigh : ByteArray := prog_4_method_3_code
def yX2_weigh : MethodName := ⟨RX2, "weigh", "(II)V"⟩
abbrev cX2_commonDivisor : ByteArray := prog_4_method_4_code
def yX2_commonDivisor : MethodName := ⟨RX2, "commonDivisor", "(JJ)J"⟩
def RX3 : String := "WovenRows$Orders"
def TX3 : u_T := fun k => match k with
  | 0 => ("WovenRows$Orders", "crowd", "[I", true)
  | 1 => ("WovenRows$Orders", "costs", "[I", true)
  | 2 => ("WovenRows$Orders", "answers", "[I", true)
  | _ => ("WovenRows$Orders", "size", "I", false)
def tyX3 : Nat → FieldType := fun k => match k with
  | 0 => .array .int
  | 1 => .array .int
  | 2 => .array .int
  | _ => .int
abbrev wsX30 : List Cond := u_ws RX3 TX3 4
theorem nmX3 : ∀ a, a < 4 → ∀ b, b < 4 → a ≠ b → (TX3 a).2.1 ≠ (TX3 b).2.1 := by decide +kernel
theorem tyX3_ok : ∀ k, k < 4 → parseFieldDescriptor (TX3 k).2.2.1 = some (tyX3 k) := by decide +kernel
abbrev cX3_init : ByteArray := prog_5_method_1_code
def yX3_init : MethodName := ⟨RX3, "<init>", "()V"⟩
abbrev cX3_gather : ByteArray := prog_5_method_2_code
def yX3_gather : MethodName := ⟨RX3, "gather", "(LWovenRows$Rows;I)V"⟩
abbrev cX3_all : ByteArray := prog_5_method_3_code
def yX3_all : MethodName := ⟨RX3, "all", "()I"⟩
abbrev cX3_answerForAll : ByteArray := prog_5_method_4_code
def yX3_answerForAll : MethodName := ⟨RX3, "answerForAll", "()I"⟩
abbrev cX3_countClashes : ByteArray := prog_5_method_5_code
def yX3_countClashes : MethodName := ⟨RX3, "countClashes", "(LWovenRows$Town;I)V"⟩
abbrev cX3_fewestOf : ByteArray := prog_5_method_6_code
def yX3_fewestOf : MethodName := ⟨RX3, "fewestOf", "(I)I"⟩
abbrev cX3_ledBy : ByteArray := prog_5_method_7_code
def yX3_ledBy : MethodName := ⟨RX3, "ledBy", "(II)I"⟩
abbrev cX3_firstOfFewest : ByteArray := prog_5_method_8_code
def yX3_firstOfFewest : MethodName := ⟨RX3, "firstOfFewest", "()I"⟩
abbrev cX3_countOrders : ByteArray := prog_5_method_9_code
def yX3_countOrders : MethodName := ⟨RX3, "countOrders", "(LWovenRows$Pairs;)V"⟩
abbrev cX3_mayLead : ByteArray := prog_5_method_10_code
def yX3_mayLead : MethodName := ⟨RX3, "mayLead", "(LWovenRows$Pairs;II)Z"⟩
abbrev cX3_firstByRules : ByteArray := prog_5_method_11_code
def yX3_firstByRules : MethodName := ⟨RX3, "firstByRules", "(LWovenRows$Pairs;)I"⟩
abbrev cX3_holdsMember : ByteArray := prog_5_method_12_code
def yX3_holdsMember : MethodName := ⟨RX3, "holdsMember", "(II)Z"⟩
abbrev cX3_holds : ByteArray := prog_5_method_13_code
def yX3_holds : MethodName := ⟨RX3, "holds", "(II)Z"⟩
abbrev cX3_without : ByteArray := prog_5_method_14_code
def yX3_without : MethodName := ⟨RX3, "without", "(II)I"⟩
def RX4 : String := "WovenRows$Pad"
def TX4 : u_T := fun k => match k with
  | 0 => ("WovenRows$Pad", "signs", "[I", true)
  | _ => ("WovenRows$Pad", "count", "I", false)
def tyX4 : Nat → FieldType := fun k => match k with
  | 0 => .array .int
  | _ => .int
abbrev wsX40 : List Cond := u_ws RX4 TX4 2
theorem nmX4 : ∀ a, a < 2 → ∀ b, b < 2 → a ≠ b → (TX4 a).2.1 ≠ (TX4 b).2.1 := by decide +kernel
theorem tyX4_ok : ∀ k, k < 2 → parseFieldDescriptor (TX4 k).2.2.1 = some (tyX4 k) := by decide +kernel
abbrev cX4_init : ByteArray := prog_6_method_1_code
def yX4_init : MethodName := ⟨RX4, "<init>", "()V"⟩
abbrev cX4_write : ByteArray := prog_6_method_2_code
def yX4_write : MethodName := ⟨RX4, "write", "(I)V"⟩
abbrev cX4_empty : ByteArray := prog_6_method_3_code
def yX4_empty : MethodName := ⟨RX4, "empty", "()I"⟩
abbrev cX4_firstFault : ByteArray := prog_6_method_4_code
def yX4_firstFault : MethodName := ⟨RX4, "firstFault", "()I"⟩
abbrev cX4_wantsAfter : ByteArray := prog_6_method_5_code
def yX4_wantsAfter : MethodName := ⟨RX4, "wantsAfter", "(II)I"⟩
abbrev cX4_isLetter : ByteArray := prog_6_method_6_code
def yX4_isLetter : MethodName := ⟨RX4, "isLetter", "(I)Z"⟩
abbrev cX4_endsAsVerb : ByteArray := prog_6_method_7_code
def yX4_endsAsVerb : MethodName := ⟨RX4, "endsAsVerb", "(I)Z"⟩
abbrev cX4_kindEndingAt : ByteArray := prog_6_method_8_code
def yX4_kindEndingAt : MethodName := ⟨RX4, "kindEndingAt", "(I)I"⟩
abbrev cX4_memberAt : ByteArray := prog_6_method_9_code
def yX4_memberAt : MethodName := ⟨RX4, "memberAt", "(I)I"⟩
def RX5 : String := "WovenRows$Pairs"
def TX5 : u_T := fun k => match k with
  | 0 => ("WovenRows$Pairs", "firsts", "[I", true)
  | 1 => ("WovenRows$Pairs", "seconds", "[I", true)
  | _ => ("WovenRows$Pairs", "count", "I", false)
def tyX5 : Nat → FieldType := fun k => match k with
  | 0 => .array .int
  | 1 => .array .int
  | _ => .int
abbrev wsX50 : List Cond := u_ws RX5 TX5 3
theorem nmX5 : ∀ a, a < 3 → ∀ b, b < 3 → a ≠ b → (TX5 a).2.1 ≠ (TX5 b).2.1 := by decide +kernel
theorem tyX5_ok : ∀ k, k < 3 → parseFieldDescriptor (TX5 k).2.2.1 = some (tyX5 k) := by decide +kernel
abbrev cX5_init : ByteArray := prog_7_method_1_code
def yX5_init : MethodName := ⟨RX5, "<init>", "(I)V"⟩
abbrev cX5_takeFrom : ByteArray := prog_7_method_2_code
def yX5_takeFrom : MethodName := ⟨RX5, "takeFrom", "(LWovenRows$Pairs;)V"⟩
abbrev cX5_append : ByteArray := prog_7_method_3_code
def yX5_append : MethodName := ⟨RX5, "append", "(II)V"⟩
abbrev cX5_empty : ByteArray := prog_7_method_4_code
def yX5_empty : MethodName := ⟨RX5, "empty", "()I"⟩
def RX6 : String := "WovenRows$Rehearsal"
def TX6 : u_T := fun k => match k with
  | 0 => ("WovenRows$Rehearsal", "acts", "I", false)
  | _ => ("WovenRows$Rehearsal", "why", "I", false)
def tyX6 : Nat → FieldType := fun k => match k with
  | 0 => .int
  | _ => .int
abbrev wsX60 : List Cond := u_ws RX6 TX6 2
theorem nmX6 : ∀ a, a < 2 → ∀ b, b < 2 → a ≠ b → (TX6 a).2.1 ≠ (TX6 b).2.1 := by decide +kernel
theorem tyX6_ok : ∀ k, k < 2 → parseFieldDescriptor (TX6 k).2.2.1 = some (tyX6 k) := by decide +kernel
abbrev cX6_init : ByteArray := prog_8_method_1_code
def yX6_init : MethodName := ⟨RX6, "<init>", "()V"⟩
abbrev cX6_play : ByteArray := prog_8_method_2_code
def yX6_play : MethodName := ⟨RX6, "play", "(LWovenRows$Pad;LWovenRows$Town;LWovenRows$Town;)V"⟩
def RX7 : String := "WovenRows$Rows"
def TX7 : u_T := fun k => match k with
  | 0 => ("WovenRows$Rows", "rowOf", "[I", true)
  | 1 => ("WovenRows$Rows", "placeOf", "[I", true)
  | _ => ("WovenRows$Rows", "rung", "I", false)
def tyX7 : Nat → FieldType := fun k => match k with
  | 0 => .array .int
  | 1 => .array .int
  | _ => .int
abbrev wsX70 : List Cond := u_ws RX7 TX7 3
theorem nmX7 : ∀ a, a < 3 → ∀ b, b < 3 → a ≠ b → (TX7 a).2.1 ≠ (TX7 b).2.1 := by decide +kernel
theorem tyX7_ok : ∀ k, k < 3 → parseFieldDescriptor (TX7 k).2.2.1 = some (tyX7 k) := by decide +kernel
abbrev cX7_init : ByteArray := prog_9_method_1_code
def yX7_init : MethodName := ⟨RX7, "<init>", "()V"⟩
abbrev cX7_takeFrom : ByteArray := prog_9_method_2_code
def yX7_takeFrom : MethodName := ⟨RX7, "takeFrom", "(LWovenRows$Rows;)V"⟩
abbrev cX7_lengthOf : ByteArray := prog_9_method_3_code
def yX7_lengthOf : MethodName := ⟨RX7, "lengthOf", "(I)I"⟩
abbrev cX7_whoIsAt : ByteArray := prog_9_method_4_code
def yX7_whoIsAt : MethodName := ⟨RX7, "whoIsAt", "(II)I"⟩
abbrev cX7_attempt : ByteArray := prog_9_method_5_code
def yX7_attempt : MethodName := ⟨RX7, "attempt", "(III)I"⟩
abbrev cX7_reasonAgainst : ByteArray := prog_9_method_6_code
def yX7_reasonAgainst : MethodName := ⟨RX7, "reasonAgainst", "(III)I"⟩
abbrev cX7_reasonAgainstJoining : ByteArray := prog_9_method_7_code
def yX7_reasonAgainstJoining : MethodName := ⟨RX7, "reasonAgainstJoining", "(II)I"⟩
abbrev cX7_carryOut : ByteArray := prog_9_method_8_code
def yX7_carryOut : MethodName := ⟨RX7, "carryOut", "(III)V"⟩
abbrev cX7_join : ByteArray := prog_9_method_9_code
def yX7_join : MethodName := ⟨RX7, "join", "(II)V"⟩
abbrev cX7_leave : ByteArray := prog_9_method_10_code
def yX7_leave : MethodName := ⟨RX7, "leave", "(I)V"⟩
abbrev cX7_swap : ByteArray := prog_9_method_11_code
def yX7_swap : MethodName := ⟨RX7, "swap", "([III)V"⟩
abbrev cX7_drawYear : ByteArray := prog_9_method_12_code
def yX7_drawYear : MethodName := ⟨RX7, "drawYear", "(II)V"⟩
abbrev cX7_drawnKind : ByteArray := prog_9_method_13_code
def yX7_drawnKind : MethodName := ⟨RX7, "drawnKind", "(I)I"⟩
def RX8 : String := "WovenRows$Town"
def TX8 : u_T := fun k => match k with
  | 0 => ("WovenRows$Town", "widths", "[I", true)
  | 1 => ("WovenRows$Town", "keys", "[I", true)
  | 2 => ("WovenRows$Town", "cells", "[I", true)
  | 3 => ("WovenRows$Town", "delays", "[I", true)
  | 4 => ("WovenRows$Town", "rows", "LWovenRows$Rows;", true)
  | 5 => ("WovenRows$Town", "rules", "LWovenRows$Pairs;", true)
  | _ => ("WovenRows$Town", "sights", "LWovenRows$Pairs;", true)
def tyX8 : Nat → FieldType := fun k => match k with
  | 0 => .array .int
  | 1 => .array .int
  | 2 => .array .int
  | 3 => .array .int
  | 4 => .object "WovenRows$Rows"
  | 5 => .object "WovenRows$Pairs"
  | _ => .object "WovenRows$Pairs"
abbrev wsX80 : List Cond := u_ws RX8 TX8 7
theorem nmX8 : ∀ a, a < 7 → ∀ b, b < 7 → a ≠ b → (TX8 a).2.1 ≠ (TX8 b).2.1 := by decide +kernel
theorem tyX8_ok : ∀ k, k < 7 → parseFieldDescriptor (TX8 k).2.2.1 = some (tyX8 k) := by decide +kernel
abbrev cX8_init : ByteArray := prog_10_method_1_code
def yX8_init : MethodName := ⟨RX8, "<init>", "()V"⟩
abbrev cX8_takeFrom : ByteArray := prog_10_method_2_code
def yX8_takeFrom : MethodName := ⟨RX8, "takeFrom", "(LWovenRows$Town;)V"⟩
abbrev cX8_startOf : ByteArray := prog_10_method_3_code
def yX8_startOf : MethodName := ⟨RX8, "startOf", "(I)I"⟩
abbrev cX8_emptyFrom : ByteArray := prog_10_method_4_code
def yX8_emptyFrom : MethodName := ⟨RX8, "emptyFrom", "(I)I"⟩
abbrev cX8_spotOf : ByteArray := prog_10_method_5_code
def yX8_spotOf : MethodName := ⟨RX8, "spotOf", "(II)I"⟩
abbrev cX8_clash : ByteArray := prog_10_method_6_code
def yX8_clash : MethodName := ⟨RX8, "clash", "(III)Z"⟩
abbrev cX8_clashesIn : ByteArray := prog_10_method_7_code
def yX8_clashesIn : MethodName := ⟨RX8, "clashesIn", "(III)I"⟩
def RX9 : String := "WovenRows$Watch"
def TX9 : u_T := fun k => match k with
  | 0 => ("WovenRows$Watch", "rowOf", "[I", true)
  | 1 => ("WovenRows$Watch", "startOf", "[I", true)
  | 2 => ("WovenRows$Watch", "tally", "[I", true)
  | 3 => ("WovenRows$Watch", "count", "I", false)
  | 4 => ("WovenRows$Watch", "memberBits", "I", false)
  | _ => ("WovenRows$Watch", "lateBits", "I", false)
def tyX9 : Nat → FieldType := fun k => match k with
  | 0 => .array .int
  | 1 => .array .int
  | 2 => .array .int
  | 3 => .int
  | 4 => .int
  | _ => .int
abbrev wsX90 : List Cond := u_ws RX9 TX9 6
theorem nmX9 : ∀ a, a < 6 → ∀ b, b < 6 → a ≠ b → (TX9 a).2.1 ≠ (TX9 b).2.1 := by decide +kernel
theorem tyX9_ok : ∀ k, k < 6 → parseFieldDescriptor (TX9 k).2.2.1 = some (tyX9 k) := by decide +kernel
abbrev cX9_init : ByteArray := prog_11_method_1_code
def yX9_init : MethodName := ⟨RX9, "<init>", "()V"⟩
abbrev cX9_fit : ByteArray := prog_11_method_2_code
def yX9_fit : MethodName := ⟨RX9, "fit", "(LWovenRows$Town;)V"⟩
abbrev cX9_allAreSo : ByteArray := prog_11_method_3_code
def yX9_allAreSo : MethodName := ⟨RX9, "allAreSo", "(LWovenRows$Pairs;II)Z"⟩
abbrev cX9_cellAt : ByteArray := prog_11_method_4_code
def yX9_cellAt : MethodName := ⟨RX9, "cellAt", "(III)I"⟩
abbrev cX9_mostLeftAt : ByteArray := prog_11_method_5_code
def yX9_mostLeftAt : MethodName := ⟨RX9, "mostLeftAt", "(I)I"⟩
def RX10 : String := "WovenRows"
def TX10 : u_T := fun k => match k with
  | 0 => ("WovenRows", "town", "LWovenRows$Town;", true)
  | 1 => ("WovenRows", "trial", "LWovenRows$Town;", true)
  | 2 => ("WovenRows", "firstImage", "LWovenRows$Town;", true)
  | 3 => ("WovenRows", "secondImage", "LWovenRows$Town;", true)
  | 4 => ("WovenRows", "keptImages", "I", false)
  | 5 => ("WovenRows", "pad", "LWovenRows$Pad;", true)
  | 6 => ("WovenRows", "rehearsal", "LWovenRows$Rehearsal;", true)
  | 7 => ("WovenRows", "meetings", "LWovenRows$Meetings;", true)
  | 8 => ("WovenRows", "arranging", "LWovenRows$Orders;", true)
  | 9 => ("WovenRows", "watch", "LWovenRows$Watch;", true)
  | 10 => ("WovenRows", "fewest", "LWovenRows$Fewest;", true)
  | _ => ("WovenRows", "odds", "LWovenRows$Odds;", true)
def tyX10 : Nat → FieldType := fun k => match k with
  | 0 => .object "WovenRows$Town"
  | 1 => .object "WovenRows$Town"
  | 2 => .object "WovenRows$Town"
  | 3 => .object "WovenRows$Town"
  | 4 => .int
  | 5 => .object "WovenRows$Pad"
  | 6 => .object "WovenRows$Rehearsal"
  | 7 => .object "WovenRows$Meetings"
  | 8 => .object "WovenRows$Orders"
  | 9 => .object "WovenRows$Watch"
  | 10 => .object "WovenRows$Fewest"
  | _ => .object "WovenRows$Odds"
abbrev wsX100 : List Cond := u_ws RX10 TX10 12
theorem nmX10 : ∀ a, a < 12 → ∀ b, b < 12 → a ≠ b → (TX10 a).2.1 ≠ (TX10 b).2.1 := by decide +kernel
theorem tyX10_ok : ∀ k, k < 12 → parseFieldDescriptor (TX10 k).2.2.1 = some (tyX10 k) := by decide +kernel
abbrev cX10_init : ByteArray := prog_1_method_1_code
def yX10_init : MethodName := ⟨RX10, "<init>", "()V"⟩
abbrev cX10_member : ByteArray := prog_1_method_2_code
def yX10_member : MethodName := ⟨RX10, "member", "(III)I"⟩
abbrev cX10_wide : ByteArray := prog_1_method_3_code
def yX10_wide : MethodName := ⟨RX10, "wide", "(II)I"⟩
abbrev cX10_delay : ByteArray := prog_1_method_4_code
def yX10_delay : MethodName := ⟨RX10, "delay", "(II)I"⟩
abbrev cX10_say : ByteArray := prog_1_method_5_code
def yX10_say : MethodName := ⟨RX10, "say", "(I)I"⟩
abbrev cX10_wipe : ByteArray := prog_1_method_6_code
def yX10_wipe : MethodName := ⟨RX10, "wipe", "()I"⟩
abbrev cX10_fault : ByteArray := prog_1_method_7_code
def yX10_fault : MethodName := ⟨RX10, "fault", "()I"⟩
abbrev cX10_judge : ByteArray := prog_1_method_8_code
def yX10_judge : MethodName := ⟨RX10, "judge", "(I)I"⟩
abbrev cX10_done : ByteArray := prog_1_method_9_code
def yX10_done : MethodName := ⟨RX10, "done", "()I"⟩
abbrev cX10_place : ByteArray := prog_1_method_10_code
def yX10_place : MethodName := ⟨RX10, "place", "(II)I"⟩
abbrev cX10_of : ByteArray := prog_1_method_11_code
def yX10_of : MethodName := ⟨RX10, "of", "(II)I"⟩
abbrev cX10_bells : ByteArray := prog_1_method_12_code
def yX10_bells : MethodName := ⟨RX10, "bells", "()I"⟩
abbrev cX10_meets : ByteArray := prog_1_method_13_code
def yX10_meets : MethodName := ⟨RX10, "meets", "(I)I"⟩
abbrev cX10_runs : ByteArray := prog_1_method_14_code
def yX10_runs : MethodName := ⟨RX10, "runs", "()I"⟩
abbrev cX10_order : ByteArray := prog_1_method_15_code
def yX10_order : MethodName := ⟨RX10, "order", "(II)I"⟩
abbrev cX10_start : ByteArray := prog_1_method_16_code
def yX10_start : MethodName := ⟨RX10, "start", "(I)I"⟩
abbrev cX10_door : ByteArray := prog_1_method_17_code
def yX10_door : MethodName := ⟨RX10, "door", "(II)I"⟩
abbrev cX10_grate : ByteArray := prog_1_method_18_code
def yX10_grate : MethodName := ⟨RX10, "grate", "(I)I"⟩
abbrev cX10_rule : ByteArray := prog_1_method_19_code
def yX10_rule : MethodName := ⟨RX10, "rule", "(II)I"⟩
abbrev cX10_unrule : ByteArray := prog_1_method_20_code
def yX10_unrule : MethodName := ⟨RX10, "unrule", "()I"⟩
abbrev cX10_orders : ByteArray := prog_1_method_21_code
def yX10_orders : MethodName := ⟨RX10, "orders", "(II)I"⟩
abbrev cX10_seen : ByteArray := prog_1_method_22_code
def yX10_seen : MethodName := ⟨RX10, "seen", "(II)I"⟩
abbrev cX10_forget : ByteArray := prog_1_method_23_code
def yX10_forget : MethodName := ⟨RX10, "forget", "()I"⟩
abbrev cX10_who : ByteArray := prog_1_method_24_code
def yX10_who : MethodName := ⟨RX10, "who", "(I)I"⟩
abbrev cX10_look : ByteArray := prog_1_method_25_code
def yX10_look : MethodName := ⟨RX10, "look", "(I)I"⟩
abbrev cX10_chance : ByteArray := prog_1_method_26_code
def yX10_chance : MethodName := ⟨RX10, "chance", "(III)J"⟩
abbrev cX10_year : ByteArray := prog_1_method_27_code
def yX10_year : MethodName := ⟨RX10, "year", "(III)I"⟩
abbrev cX10_image : ByteArray := prog_1_method_28_code
def yX10_image : MethodName := ⟨RX10, "image", "(I)I"⟩
abbrev cX10_restore : ByteArray := prog_1_method_29_code
def yX10_restore : MethodName := ⟨RX10, "restore", "(I)I"⟩
abbrev cX10_told : ByteArray := prog_1_method_30_code
def yX10_told : MethodName := ⟨RX10, "told", "(I)I"⟩
abbrev cX10_toldCount : ByteArray := prog_1_method_31_code
def yX10_toldCount : MethodName := ⟨RX10, "toldCount", "(I)I"⟩
abbrev cX10_imageOf : ByteArray := prog_1_method_32_code
def yX10_imageOf : MethodName := ⟨RX10, "imageOf", "(I)LWovenRows$Town;"⟩
abbrev cX10_daysCanBe : ByteArray := prog_1_method_33_code
def yX10_daysCanBe : MethodName := ⟨RX10, "daysCanBe", "()Z"⟩
abbrev cX10_within : ByteArray := prog_1_method_34_code
def yX10_within : MethodName := ⟨RX10, "within", "(III)Z"⟩
abbrev cX10_isRow : ByteArray := prog_1_method_35_code
def yX10_isRow : MethodName := ⟨RX10, "isRow", "(I)Z"⟩
abbrev cX10_at : ByteArray := prog_1_method_36_code
def yX10_at : MethodName := ⟨RX10, "at", "([II)I"⟩
abbrev cX10_put : ByteArray := prog_1_method_37_code
def yX10_put : MethodName := ⟨RX10, "put", "([III)V"⟩
abbrev cX10_fill : ByteArray := prog_1_method_38_code
def yX10_fill : MethodName := ⟨RX10, "fill", "([II)V"⟩
abbrev cX10_copy : ByteArray := prog_1_method_39_code
def yX10_copy : MethodName := ⟨RX10, "copy", "([I[I)V"⟩
def RX11 : String := "WovenRowsModel"
def TX11 : u_T := fun k => match k with
  | 0 => ("WovenRowsModel", "book", "[I", true)
  | 1 => ("WovenRowsModel", "now", "[I", true)
  | 2 => ("WovenRowsModel", "width", "[I", true)
  | 3 => ("WovenRowsModel", "key", "[I", true)
  | 4 => ("WovenRowsModel", "wide", "[I", true)
  | 5 => ("WovenRowsModel", "delay", "[I", true)
  | 6 => ("WovenRowsModel", "rules", "I", false)
  | 7 => ("WovenRowsModel", "ahead", "[I", true)
  | 8 => ("WovenRowsModel", "after", "[I", true)
  | 9 => ("WovenRowsModel", "sights", "I", false)
  | 10 => ("WovenRowsModel", "sight", "[I", true)
  | 11 => ("WovenRowsModel", "signs", "I", false)
  | 12 => ("WovenRowsModel", "pad", "[I", true)
  | 13 => ("WovenRowsModel", "reason", "I", false)
  | 14 => ("WovenRowsModel", "acts", "I", false)
  | 15 => ("WovenRowsModel", "meetings", "I", false)
  | 16 => ("WovenRowsModel", "clashes", "I", false)
  | 17 => ("WovenRowsModel", "first", "I", false)
  | 18 => ("WovenRowsModel", "where", "I", false)
  | 19 => ("WovenRowsModel", "door", "I", false)
  | 20 => ("WovenRowsModel", "wider", "I", false)
  | 21 => ("WovenRowsModel", "ordersFound", "I", false)
  | 22 => ("WovenRowsModel", "firstOrder", "I", false)
  | 23 => ("WovenRowsModel", "least", "I", false)
  | 24 => ("WovenRowsModel", "leastOrder", "I", false)
  | 25 => ("WovenRowsModel", "counts", "[I", true)
  | 26 => ("WovenRowsModel", "isOne", "[Z", true)
  | 27 => ("WovenRowsModel", "ways", "[J", true)
  | 28 => ("WovenRowsModel", "image", "[I", true)
  | _ => ("WovenRowsModel", "isKept", "[Z", true)
def tyX11 : Nat → FieldType := fun k => match k with
  | 0 => .array .int
  | 1 => .array .int
  | 2 => .array .int
  | 3 => .array .int
  | 4 => .array .int
  | 5 => .array .int
  | 6 => .int
  | 7 => .array .int
  | 8 => .array .int
  | 9 => .int
  | 10 => .array .int
  | 11 => .int
  | 12 => .array .int
  | 13 => .int
  | 14 => .int
  | 15 => .int
  | 16 => .int
  | 17 => .int
  | 18 => .int
  | 19 => .int
  | 20 => .int
  | 21 => .int
  | 22 => .int
  | 23 => .int
  | 24 => .int
  | 25 => .array .int
  | 26 => .array .boolean
  | 27 => .array .long
  | 28 => .array .int
  | _ => .array .boolean
abbrev wsX110 : List Cond := u_ws RX11 TX11 30
theorem nmX11 : ∀ a, a < 30 → ∀ b, b < 30 → a ≠ b → (TX11 a).2.1 ≠ (TX11 b).2.1 := by decide +kernel
theorem tyX11_ok : ∀ k, k < 30 → parseFieldDescriptor (TX11 k).2.2.1 = some (tyX11 k) := by decide +kernel
abbrev cX11_init : ByteArray := prog_13_method_1_code
def yX11_init : MethodName := ⟨RX11, "<init>", "()V"⟩
abbrev cX11_in : ByteArray := prog_13_method_2_code
def yX11_in : MethodName := ⟨RX11, "in", "(III)Z"⟩
abbrev cX11_bits : ByteArray := prog_13_method_4_code
def yX11_bits : MethodName := ⟨RX11, "bits", "(I)I"⟩
abbrev cX11_isMember : ByteArray := prog_13_method_5_code
def yX11_isMember : MethodName := ⟨RX11, "isMember", "(I)Z"⟩
abbrev cX11_isRow : ByteArray := prog_13_method_6_code
def yX11_isRow : MethodName := ⟨RX11, "isRow", "(I)Z"⟩
abbrev cX11_member : ByteArray := prog_13_method_7_code
def yX11_member : MethodName := ⟨RX11, "member", "(III)I"⟩
abbrev cX11_wide : ByteArray := prog_13_method_8_code
def yX11_wide : MethodName := ⟨RX11, "wide", "(II)I"⟩
abbrev cX11_delay : ByteArray := prog_13_method_9_code
def yX11_delay : MethodName := ⟨RX11, "delay", "(II)I"⟩
abbrev cX11_say : ByteArray := prog_13_method_10_code
def yX11_say : MethodName := ⟨RX11, "say", "(I)I"⟩
abbrev cX11_wipe : ByteArray := prog_13_method_11_code
def yX11_wipe : MethodName := ⟨RX11, "wipe", "()I"⟩
abbrev cX11_isLetter : ByteArray := prog_13_method_12_code
def yX11_isLetter : MethodName := ⟨RX11, "isLetter", "(I)Z"⟩
abbrev cX11_faultOf : ByteArray := prog_13_method_13_code
def yX11_faultOf : MethodName := ⟨RX11, "faultOf", "()I"⟩
abbrev cX11_fault : ByteArray := prog_13_method_14_code
def yX11_fault : MethodName := ⟨RX11, "fault", "()I"⟩
abbrev cX11_asNow : ByteArray := prog_13_method_15_code
def yX11_asNow : MethodName := ⟨RX11, "asNow", "()V"⟩
abbrev cX11_spotOf : ByteArray := prog_13_method_16_code
def yX11_spotOf : MethodName := ⟨RX11, "spotOf", "(I)I"⟩
abbrev cX11_join : ByteArray := prog_13_method_17_code
def yX11_join : MethodName := ⟨RX11, "join", "(II)I"⟩
abbrev cX11_goHome : ByteArray := prog_13_method_18_code
def yX11_goHome : MethodName := ⟨RX11, "goHome", "(I)I"⟩
abbrev cX11_change : ByteArray := prog_13_method_19_code
def yX11_change : MethodName := ⟨RX11, "change", "(II)I"⟩
abbrev cX11_ring : ByteArray := prog_13_method_20_code
def yX11_ring : MethodName := ⟨RX11, "ring", "()I"⟩
abbrev cX11_goDays : ByteArray := prog_13_method_21_code
def yX11_goDays : MethodName := ⟨RX11, "goDays", "()I"⟩
abbrev cX11_judge : ByteArray := prog_13_method_22_code
def yX11_judge : MethodName := ⟨RX11, "judge", "(I)I"⟩
abbrev cX11_barOfDays : ByteArray := prog_13_method_23_code
def yX11_barOfDays : MethodName := ⟨RX11, "barOfDays", "()I"⟩
abbrev cX11_done : ByteArray := prog_13_method_24_code
def yX11_done : MethodName := ⟨RX11, "done", "()I"⟩
abbrev cX11_place : ByteArray := prog_13_method_25_code
def yX11_place : MethodName := ⟨RX11, "place", "(II)I"⟩
abbrev cX11_of : ByteArray := prog_13_method_26_code
def yX11_of : MethodName := ⟨RX11, "of", "(II)I"⟩
abbrev cX11_bells : ByteArray := prog_13_method_27_code
def yX11_bells : MethodName := ⟨RX11, "bells", "()I"⟩
abbrev cX11_widthOf : ByteArray := prog_13_method_28_code
def yX11_widthOf : MethodName := ⟨RX11, "widthOf", "(I)I"⟩
abbrev cX11_spot : ByteArray := prog_13_method_29_code
def yX11_spot : MethodName := ⟨RX11, "spot", "(II)I"⟩
abbrev cX11_doClear : ByteArray := prog_13_method_30_code
def yX11_doClear : MethodName := ⟨RX11, "doClear", "(II)Z"⟩
abbrev cX11_layMeetings : ByteArray := prog_13_method_31_code
def yX11_layMeetings : MethodName := ⟨RX11, "layMeetings", "()V"⟩
abbrev cX11_plain : ByteArray := prog_13_method_32_code
def yX11_plain : MethodName := ⟨RX11, "plain", "()V"⟩
abbrev cX11_meets : ByteArray := prog_13_method_33_code
def yX11_meets : MethodName := ⟨RX11, "meets", "(I)I"⟩
abbrev cX11_runs : ByteArray := prog_13_method_34_code
def yX11_runs : MethodName := ⟨RX11, "runs", "()I"⟩
abbrev cX11_keepsRules : ByteArray := prog_13_method_35_code
def yX11_keepsRules : MethodName := ⟨RX11, "keepsRules", "(I)Z"⟩
abbrev cX11_layRow : ByteArray := prog_13_method_36_code
def yX11_layRow : MethodName := ⟨RX11, "layRow", "(II)I"⟩
abbrev cX11_layOrders : ByteArray := prog_13_method_37_code
def yX11_layOrders : MethodName := ⟨RX11, "layOrders", "(I)V"⟩
abbrev cX11_order : ByteArray := prog_13_method_38_code
def yX11_order : MethodName := ⟨RX11, "order", "(II)I"⟩
abbrev cX11_start : ByteArray := prog_13_method_39_code
def yX11_start : MethodName := ⟨RX11, "start", "(I)I"⟩
abbrev cX11_door : ByteArray := prog_13_method_40_code
def yX11_door : MethodName := ⟨RX11, "door", "(II)I"⟩
abbrev cX11_grating : ByteArray := prog_13_method_41_code
def yX11_grating : MethodName := ⟨RX11, "grating", "(I)I"⟩
abbrev cX11_grate : ByteArray := prog_13_method_42_code
def yX11_grate : MethodName := ⟨RX11, "grate", "(I)I"⟩
abbrev cX11_rule : ByteArray := prog_13_method_43_code
def yX11_rule : MethodName := ⟨RX11, "rule", "(II)I"⟩
abbrev cX11_unrule : ByteArray := prog_13_method_44_code
def yX11_unrule : MethodName := ⟨RX11, "unrule", "()I"⟩
abbrev cX11_orders : ByteArray := prog_13_method_45_code
def yX11_orders : MethodName := ⟨RX11, "orders", "(II)I"⟩
abbrev cX11_seen : ByteArray := prog_13_method_46_code
def yX11_seen : MethodName := ⟨RX11, "seen", "(II)I"⟩
abbrev cX11_forget : ByteArray := prog_13_method_47_code
def yX11_forget : MethodName := ⟨RX11, "forget", "()I"⟩
abbrev cX11_cellOf : ByteArray := prog_13_method_48_code
def yX11_cellOf : MethodName := ⟨RX11, "cellOf", "(III)I"⟩
abbrev cX11_fits : ByteArray := prog_13_method_49_code
def yX11_fits : MethodName := ⟨RX11, "fits", "(II)Z"⟩
abbrev cX11_who : ByteArray := prog_13_method_50_code
def yX11_who : MethodName := ⟨RX11, "who", "(I)I"⟩
abbrev cX11_look : ByteArray := prog_13_method_51_code
def yX11_look : MethodName := ⟨RX11, "look", "(I)I"⟩
abbrev cX11_chance : ByteArray := prog_13_method_52_code
def yX11_chance : MethodName := ⟨RX11, "chance", "(III)J"⟩
abbrev cX11_year : ByteArray := prog_13_method_53_code
def yX11_year : MethodName := ⟨RX11, "year", "(III)I"⟩
abbrev cX11_image : ByteArray := prog_13_method_54_code
def yX11_image : MethodName := ⟨RX11, "image", "(I)I"⟩
abbrev cX11_restore : ByteArray := prog_13_method_55_code
def yX11_restore : MethodName := ⟨RX11, "restore", "(I)I"⟩
abbrev cX11_told : ByteArray := prog_13_method_56_code
def yX11_told : MethodName := ⟨RX11, "told", "(I)I"⟩
def RJ6 : String := "java/lang/Integer"
def TJ6 : u_T := fun k => match k with
  | _ => ("", "", "", false)
def tyJ6 : Nat → FieldType := fun k => match k with
  | _ => .int
abbrev wsJ60 : List Cond := u_ws RJ6 TJ6 0
theorem nmJ6 : ∀ a, a < 0 → ∀ b, b < 0 → a ≠ b → (TJ6 a).2.1 ≠ (TJ6 b).2.1 := by decide +kernel
theorem tyJ6_ok : ∀ k, k < 0 → parseFieldDescriptor (TJ6 k).2.2.1 = some (tyJ6 k) := by decide +kernel
abbrev cJ6_bitCount_0f7a4 : ByteArray := prog_14_method_49_code
def yJ6_bitCount_0f7a4 : MethodName := ⟨RJ6, "bitCount", "(I)I"⟩
def RJ9 : String := "java/lang/Math"
def TJ9 : u_T := fun k => match k with
  | _ => ("", "", "", false)
def tyJ9 : Nat → FieldType := fun k => match k with
  | _ => .int
abbrev wsJ90 : List Cond := u_ws RJ9 TJ9 0
theorem nmJ9 : ∀ a, a < 0 → ∀ b, b < 0 → a ≠ b → (TJ9 a).2.1 ≠ (TJ9 b).2.1 := by decide +kernel
theorem tyJ9_ok : ∀ k, k < 0 → parseFieldDescriptor (TJ9 k).2.2.1 = some (tyJ9 k) := by decide +kernel
abbrev cJ9_abs_0f7a4 : ByteArray := prog_15_method_59_code
def yJ9_abs_0f7a4 : MethodName := ⟨RJ9, "abs", "(I)I"⟩
abbrev cJ9_max_7cf53 : ByteArray := prog_15_method_65_code
def yJ9_max_7cf53 : MethodName := ⟨RJ9, "max", "(II)I"⟩
abbrev cJ9_min_7cf53 : ByteArray := prog_15_method_69_code
def yJ9_min_7cf53 : MethodName := ⟨RJ9, "min", "(II)I"⟩
def RL : String := "WovenRowsLaw"
abbrev cL_law : ByteArray := code
def yL_law : MethodName := ⟨RL, "law", "([I)Z"⟩
def wsX0_init : List Cond := .code yX0_init cX0_init 1 none :: ([.methodLink RX0 3 objectInit, .instanceMethod objectInit, .code objectInit ⟨#[0xb1]⟩ 1 none, .fieldLink RX0 9 "WovenRows$Fewest" "by" "I", .fieldLink RX0 15 "WovenRows$Fewest" "count" "I"] ++ wsX00)
def wsX0_begin : List Cond := .code yX0_begin cX0_begin 1 none :: ([.fieldLink RX0 9 "WovenRows$Fewest" "by" "I", .fieldLink RX0 15 "WovenRows$Fewest" "count" "I"] ++ wsX00)
def wsX0_offer : List Cond := .code yX0_offer cX0_offer 3 none :: ([.fieldLink RX0 9 "WovenRows$Fewest" "by" "I", .fieldLink RX0 15 "WovenRows$Fewest" "count" "I"] ++ wsX00)
def wsX1_init : List Cond := .code yX1_init cX1_init 1 none :: ([.methodLink RX1 3 objectInit, .instanceMethod objectInit, .code objectInit ⟨#[0xb1]⟩ 1 none, .fieldLink RX1 9 "WovenRows$Meetings" "twos" "I", .fieldLink RX1 15 "WovenRows$Meetings" "clashes" "I", .fieldLink RX1 18 "WovenRows$Meetings" "first" "I", .fieldLink RX1 21 "WovenRows$Meetings" "where" "I", .fieldLink RX1 24 "WovenRows$Meetings" "firstTurn" "I"] ++ wsX10)
def wsX10_at : List Cond := .code yX10_at cX10_at 2 (some .int) :: ([])
def wsX8_startOf : List Cond := .code yX8_startOf cX8_startOf 2 (some .int) :: ([.fieldLink RX8 21 "WovenRows$Town" "delays" "[I", .fieldLink RX8 27 "WovenRows$Town" "rows" "LWovenRows$Rows;", .static yX10_at, .initialized RX10, .code yX10_at cX10_at 2 (some .int)] ++ wsX80 ++ wsX70)
def wsX10_within : List Cond := .code yX10_within cX10_within 3 (some .boolean) :: ([])
def wsX8_spotOf : List Cond := .code yX8_spotOf cX8_spotOf 3 (some .int) :: ([.static yX10_within, .initialized RX10, .code yX10_within cX10_within 3 (some .boolean)])
def wsX8_clash : List Cond := .code yX8_clash cX8_clash 5 (some .boolean) :: ([.fieldLink RX8 18 "WovenRows$Town" "cells" "[I", .methodLink RX8 76 Lib.Math.min.name, .static Lib.Math.min.name, .initialized "java/lang/Math", .code Lib.Math.min.name Lib.Math.min.code 2 (some .int), .fieldLink RX8 9 "WovenRows$Town" "widths" "[I", .static yX10_at, .initialized RX10, .code yX10_at cX10_at 2 (some .int)] ++ wsX80)
def wsX1_noteClash : List Cond := .code yX1_noteClash cX1_noteClash 4 none :: ([.fieldLink RX1 15 "WovenRows$Meetings" "clashes" "I", .fieldLink RX1 24 "WovenRows$Meetings" "firstTurn" "I", .fieldLink RX1 18 "WovenRows$Meetings" "first" "I", .fieldLink RX1 21 "WovenRows$Meetings" "where" "I"] ++ wsX10)
def wsX1_countOf_r1 : List Cond := [Cond.fieldLink RX1 9 "WovenRows$Meetings" "twos" "I", Cond.methodLink RX1 47 yX8_startOf, Cond.instanceMethod yX8_startOf, Cond.selects RX8 yX8_startOf yX8_startOf, Cond.initialized RX8, Cond.code yX8_startOf cX8_startOf 2 (some .int), Cond.fieldLink RX8 21 "WovenRows$Town" "delays" "[I", Cond.fieldLink RX8 27 "WovenRows$Town" "rows" "LWovenRows$Rows;", Cond.static yX10_at, Cond.initialized RX10, Cond.code yX10_at cX10_at 2 (some .int), Cond.methodLink RX1 51 yX8_spotOf, Cond.static yX8_spotOf, Cond.code yX8_spotOf cX8_spotOf 3 (some .int), Cond.static yX10_within, Cond.code yX10_within cX10_within 3 (some .boolean), Cond.methodLink RX1 55 yX8_clash, Cond.instanceMethod yX8_clash, Cond.selects RX8 yX8_clash yX8_clash, Cond.code yX8_clash cX8_clash 5 (some .boolean), Cond.fieldLink RX8 18 "WovenRows$Town" "cells" "[I", Cond.methodLink RX8 76 Lib.Math.min.name, Cond.static Lib.Math.min.name, Cond.initialized "java/lang/Math"]
def wsX1_countOf_r2 : List Cond := [Cond.code Lib.Math.min.name Lib.Math.min.code 2 (some .int), Cond.fieldLink RX8 9 "WovenRows$Town" "widths" "[I", Cond.methodLink RX1 62 yX1_noteClash, Cond.instanceMethod yX1_noteClash, Cond.selects RX1 yX1_noteClash yX1_noteClash, Cond.initialized RX1, Cond.code yX1_noteClash cX1_noteClash 4 none, Cond.fieldLink RX1 15 "WovenRows$Meetings" "clashes" "I", Cond.fieldLink RX1 24 "WovenRows$Meetings" "firstTurn" "I", Cond.fieldLink RX1 18 "WovenRows$Meetings" "first" "I", Cond.fieldLink RX1 21 "WovenRows$Meetings" "where" "I"]
def wsX1_countOf : List Cond := .code yX1_countOf cX1_countOf 7 none :: ((wsX1_countOf_r1 ++ wsX1_countOf_r2) ++ wsX80 ++ wsX70 ++ wsX10)
def wsX1_count_r1 : List Cond := [Cond.fieldLink RX1 9 "WovenRows$Meetings" "twos" "I", Cond.fieldLink RX1 15 "WovenRows$Meetings" "clashes" "I", Cond.fieldLink RX1 18 "WovenRows$Meetings" "first" "I", Cond.fieldLink RX1 21 "WovenRows$Meetings" "where" "I", Cond.static yX10_at, Cond.initialized RX10, Cond.code yX10_at cX10_at 2 (some .int), Cond.methodLink RX1 43 yX1_countOf, Cond.instanceMethod yX1_countOf, Cond.selects RX1 yX1_countOf yX1_countOf, Cond.initialized RX1, Cond.code yX1_countOf cX1_countOf 7 none, Cond.methodLink RX1 47 yX8_startOf, Cond.instanceMethod yX8_startOf, Cond.selects RX8 yX8_startOf yX8_startOf, Cond.initialized RX8, Cond.code yX8_startOf cX8_startOf 2 (some .int), Cond.fieldLink RX8 21 "WovenRows$Town" "delays" "[I", Cond.fieldLink RX8 27 "WovenRows$Town" "rows" "LWovenRows$Rows;", Cond.methodLink RX1 51 yX8_spotOf, Cond.static yX8_spotOf, Cond.code yX8_spotOf cX8_spotOf 3 (some .int), Cond.static yX10_within, Cond.code yX10_within cX10_within 3 (some .boolean)]
def wsX1_count_r2 : List Cond := [Cond.methodLink RX1 55 yX8_clash, Cond.instanceMethod yX8_clash, Cond.selects RX8 yX8_clash yX8_clash, Cond.code yX8_clash cX8_clash 5 (some .boolean), Cond.fieldLink RX8 18 "WovenRows$Town" "cells" "[I", Cond.methodLink RX8 76 Lib.Math.min.name, Cond.static Lib.Math.min.name, Cond.initialized "java/lang/Math", Cond.code Lib.Math.min.name Lib.Math.min.code 2 (some .int), Cond.fieldLink RX8 9 "WovenRows$Town" "widths" "[I", Cond.methodLink RX1 62 yX1_noteClash, Cond.instanceMethod yX1_noteClash, Cond.selects RX1 yX1_noteClash yX1_noteClash, Cond.code yX1_noteClash cX1_noteClash 4 none, Cond.fieldLink RX1 24 "WovenRows$Meetings" "firstTurn" "I"]
def wsX1_count : List Cond := .code yX1_count cX1_count 3 none :: ((wsX1_count_r1 ++ wsX1_count_r2) ++ wsX10 ++ wsX80 ++ wsX70)
def wsX1_gratingWith : List Cond := .code yX1_gratingWith cX1_gratingWith 6 (some .int) :: ([.methodLink RX1 73 Lib.Math.abs.name, .static Lib.Math.abs.name, .initialized "java/lang/Math", .code Lib.Math.abs.name Lib.Math.abs.code 1 (some .int), .static yX10_at, .initialized RX10, .code yX10_at cX10_at 2 (some .int), .methodLink RX1 47 yX8_startOf, .instanceMethod yX8_startOf, .selects RX8 yX8_startOf yX8_startOf, .initialized RX8, .code yX8_startOf cX8_startOf 2 (some .int), .fieldLink RX8 21 "WovenRows$Town" "delays" "[I", .fieldLink RX8 27 "WovenRows$Town" "rows" "LWovenRows$Rows;", .methodLink RX1 51 yX8_spotOf, .static yX8_spotOf, .code yX8_spotOf cX8_spotOf 3 (some .int), .static yX10_within, .code yX10_within cX10_within 3 (some .boolean)] ++ wsX80 ++ wsX70)
def wsX1_grating : List Cond := .code yX1_grating cX1_grating 5 (some .int) :: ([.static yX10_at, .initialized RX10, .code yX10_at cX10_at 2 (some .int), .methodLink RX1 69 yX1_gratingWith, .static yX1_gratingWith, .initialized RX1, .code yX1_gratingWith cX1_gratingWith 6 (some .int), .methodLink RX1 73 Lib.Math.abs.name, .static Lib.Math.abs.name, .initialized "java/lang/Math", .code Lib.Math.abs.name Lib.Math.abs.code 1 (some .int), .methodLink RX1 47 yX8_startOf, .instanceMethod yX8_startOf, .selects RX8 yX8_startOf yX8_startOf, .initialized RX8, .code yX8_startOf cX8_startOf 2 (some .int), .fieldLink RX8 21 "WovenRows$Town" "delays" "[I", .fieldLink RX8 27 "WovenRows$Town" "rows" "LWovenRows$Rows;", .methodLink RX1 51 yX8_spotOf, .static yX8_spotOf, .code yX8_spotOf cX8_spotOf 3 (some .int), .static yX10_within, .code yX10_within cX10_within 3 (some .boolean)] ++ wsX80 ++ wsX70)
def wsX2_init : List Cond := .code yX2_init cX2_init 1 none :: ([.methodLink RX2 3 objectInit, .instanceMethod objectInit, .code objectInit ⟨#[0xb1]⟩ 1 none, .arrayClass .long, .fieldLink RX2 9 "WovenRows$Odds" "weights" "[J", .fieldLink RX2 15 "WovenRows$Odds" "upper" "J", .fieldLink RX2 19 "WovenRows$Odds" "lower" "J"] ++ wsX20)
def wsX2_weigh : List Cond := .code yX2_weigh cX2_weigh 7 none :: ([.fieldLink RX2 9 "WovenRows$Odds" "weights" "[J"] ++ wsX20)
def wsX2_commonDivisor : List Cond := .code yX2_commonDivisor cX2_commonDivisor 11 (some .long) :: ([])
def wsX2_reckon : List Cond := .code yX2_reckon cX2_reckon 10 none :: ([.fieldLink RX2 9 "WovenRows$Odds" "weights" "[J", .constantLong RX2 26 (10), .fieldLink RX2 15 "WovenRows$Odds" "upper" "J", .fieldLink RX2 19 "WovenRows$Odds" "lower" "J", .methodLink RX2 22 yX2_weigh, .instanceMethod yX2_weigh, .selects RX2 yX2_weigh yX2_weigh, .initialized RX2, .code yX2_weigh cX2_weigh 7 none, .methodLink RX2 28 yX2_commonDivisor, .static yX2_commonDivisor, .code yX2_commonDivisor cX2_commonDivisor 11 (some .long)] ++ wsX20)
def wsX3_init : List Cond := .code yX3_init cX3_init 1 none :: ([.methodLink RX3 3 objectInit, .instanceMethod objectInit, .code objectInit ⟨#[0xb1]⟩ 1 none, .arrayClass .int, .fieldLink RX3 9 "WovenRows$Orders" "crowd" "[I", .fieldLink RX3 15 "WovenRows$Orders" "costs" "[I", .fieldLink RX3 18 "WovenRows$Orders" "answers" "[I", .fieldLink RX3 21 "WovenRows$Orders" "size" "I"] ++ wsX30)
def wsX10_put : List Cond := .code yX10_put cX10_put 3 none :: ([])
def wsX3_gather : List Cond := .code yX3_gather cX3_gather 4 none :: ([.fieldLink RX3 21 "WovenRows$Orders" "size" "I", .fieldLink RX3 9 "WovenRows$Orders" "crowd" "[I", .static yX10_at, .initialized RX10, .code yX10_at cX10_at 2 (some .int), .static yX10_put, .code yX10_put cX10_put 3 none] ++ wsX30 ++ wsX70)
def wsX3_all : List Cond := .code yX3_all cX3_all 1 (some .int) :: ([.fieldLink RX3 21 "WovenRows$Orders" "size" "I"] ++ wsX30)
def wsX3_answerForAll : List Cond := .code yX3_answerForAll cX3_answerForAll 1 (some .int) :: ([.fieldLink RX3 18 "WovenRows$Orders" "answers" "[I", .methodLink RX3 38 yX3_all, .instanceMethod yX3_all, .selects RX3 yX3_all yX3_all, .initialized RX3, .code yX3_all cX3_all 1 (some .int), .fieldLink RX3 21 "WovenRows$Orders" "size" "I", .static yX10_at, .initialized RX10, .code yX10_at cX10_at 2 (some .int)] ++ wsX30)
def wsX8_clashesIn_r1 : List Cond := [Cond.fieldLink RX8 21 "WovenRows$Town" "delays" "[I", Cond.fieldLink RX8 27 "WovenRows$Town" "rows" "LWovenRows$Rows;", Cond.static yX10_at, Cond.initialized RX10, Cond.code yX10_at cX10_at 2 (some .int), Cond.methodLink RX8 82 yX8_startOf, Cond.instanceMethod yX8_startOf, Cond.selects RX8 yX8_startOf yX8_startOf, Cond.initialized RX8, Cond.code yX8_startOf cX8_startOf 2 (some .int), Cond.methodLink RX8 85 yX8_spotOf, Cond.static yX8_spotOf, Cond.code yX8_spotOf cX8_spotOf 3 (some .int), Cond.static yX10_within, Cond.code yX10_within cX10_within 3 (some .boolean), Cond.methodLink RX8 88 yX8_clash, Cond.instanceMethod yX8_clash, Cond.selects RX8 yX8_clash yX8_clash, Cond.code yX8_clash cX8_clash 5 (some .boolean), Cond.fieldLink RX8 18 "WovenRows$Town" "cells" "[I", Cond.methodLink RX8 76 Lib.Math.min.name, Cond.static Lib.Math.min.name, Cond.initialized "java/lang/Math", Cond.code Lib.Math.min.name Lib.Math.min.code 2 (some .int)]
def wsX8_clashesIn_r2 : List Cond := [Cond.fieldLink RX8 9 "WovenRows$Town" "widths" "[I"]
def wsX8_clashesIn : List Cond := .code yX8_clashesIn cX8_clashesIn 8 (some .int) :: ((wsX8_clashesIn_r1 ++ wsX8_clashesIn_r2) ++ wsX80 ++ wsX70)
def wsX3_holds : List Cond := .code yX3_holds cX3_holds 2 (some .boolean) :: ([])
def wsJ6_bitCount_0f7a4 : List Cond := .code yJ6_bitCount_0f7a4 cJ6_bitCount_0f7a4 1 (some .int) :: ([.constant RJ6 265 (1431655765), .constant RJ6 266 (858993459), .constant RJ6 267 (252645135)])
def wsX3_without : List Cond := .code yX3_without cX3_without 2 (some .int) :: ([])
def wsX3_ledBy : List Cond := .code yX3_ledBy cX3_ledBy 4 (some .int) :: ([.fieldLink RX3 21 "WovenRows$Orders" "size" "I", .fieldLink RX3 15 "WovenRows$Orders" "costs" "[I", .fieldLink RX3 18 "WovenRows$Orders" "answers" "[I", .methodLink RX3 65 yJ6_bitCount_0f7a4, .static yJ6_bitCount_0f7a4, .initialized RJ6, .code yJ6_bitCount_0f7a4 cJ6_bitCount_0f7a4 1 (some .int), .constant RJ6 265 (1431655765), .constant RJ6 266 (858993459), .constant RJ6 267 (252645135), .static yX10_at, .initialized RX10, .code yX10_at cX10_at 2 (some .int), .methodLink RX3 70 yX3_without, .static yX3_without, .initialized RX3, .code yX3_without cX3_without 2 (some .int)] ++ wsX30)
def wsX3_fewestOf_r1 : List Cond := [Cond.fieldLink RX3 21 "WovenRows$Orders" "size" "I", Cond.methodLink RX3 60 Lib.Math.min.name, Cond.static Lib.Math.min.name, Cond.initialized "java/lang/Math", Cond.code Lib.Math.min.name Lib.Math.min.code 2 (some .int), Cond.methodLink RX3 52 yX3_holds, Cond.static yX3_holds, Cond.initialized RX3, Cond.code yX3_holds cX3_holds 2 (some .boolean), Cond.methodLink RX3 56 yX3_ledBy, Cond.instanceMethod yX3_ledBy, Cond.selects RX3 yX3_ledBy yX3_ledBy, Cond.code yX3_ledBy cX3_ledBy 4 (some .int), Cond.fieldLink RX3 15 "WovenRows$Orders" "costs" "[I", Cond.fieldLink RX3 18 "WovenRows$Orders" "answers" "[I", Cond.methodLink RX3 65 yJ6_bitCount_0f7a4, Cond.static yJ6_bitCount_0f7a4, Cond.initialized RJ6, Cond.code yJ6_bitCount_0f7a4 cJ6_bitCount_0f7a4 1 (some .int), Cond.constant RJ6 265 (1431655765), Cond.constant RJ6 266 (858993459), Cond.constant RJ6 267 (252645135), Cond.static yX10_at, Cond.initialized RX10]
def wsX3_fewestOf_r2 : List Cond := [Cond.code yX10_at cX10_at 2 (some .int), Cond.methodLink RX3 70 yX3_without, Cond.static yX3_without, Cond.code yX3_without cX3_without 2 (some .int)]
def wsX3_fewestOf : List Cond := .code yX3_fewestOf cX3_fewestOf 5 (some .int) :: ((wsX3_fewestOf_r1 ++ wsX3_fewestOf_r2) ++ wsX30)
def wsX3_countClashes_r1 : List Cond := [Cond.fieldLink RX3 21 "WovenRows$Orders" "size" "I", Cond.fieldLink RX3 15 "WovenRows$Orders" "costs" "[I", Cond.fieldLink RX3 9 "WovenRows$Orders" "crowd" "[I", Cond.fieldLink RX3 18 "WovenRows$Orders" "answers" "[I", Cond.static yX10_at, Cond.initialized RX10, Cond.code yX10_at cX10_at 2 (some .int), Cond.methodLink RX3 42 yX8_clashesIn, Cond.instanceMethod yX8_clashesIn, Cond.selects RX8 yX8_clashesIn yX8_clashesIn, Cond.initialized RX8, Cond.code yX8_clashesIn cX8_clashesIn 8 (some .int), Cond.fieldLink RX8 21 "WovenRows$Town" "delays" "[I", Cond.fieldLink RX8 27 "WovenRows$Town" "rows" "LWovenRows$Rows;", Cond.methodLink RX8 82 yX8_startOf, Cond.instanceMethod yX8_startOf, Cond.selects RX8 yX8_startOf yX8_startOf, Cond.code yX8_startOf cX8_startOf 2 (some .int), Cond.methodLink RX8 85 yX8_spotOf, Cond.static yX8_spotOf, Cond.code yX8_spotOf cX8_spotOf 3 (some .int), Cond.static yX10_within, Cond.code yX10_within cX10_within 3 (some .boolean), Cond.methodLink RX8 88 yX8_clash]
def wsX3_countClashes_r2 : List Cond := [Cond.instanceMethod yX8_clash, Cond.selects RX8 yX8_clash yX8_clash, Cond.code yX8_clash cX8_clash 5 (some .boolean), Cond.fieldLink RX8 18 "WovenRows$Town" "cells" "[I", Cond.methodLink RX8 76 Lib.Math.min.name, Cond.static Lib.Math.min.name, Cond.initialized "java/lang/Math", Cond.code Lib.Math.min.name Lib.Math.min.code 2 (some .int), Cond.fieldLink RX8 9 "WovenRows$Town" "widths" "[I", Cond.static yX10_put, Cond.code yX10_put cX10_put 3 none, Cond.methodLink RX3 38 yX3_all, Cond.instanceMethod yX3_all, Cond.selects RX3 yX3_all yX3_all, Cond.initialized RX3, Cond.code yX3_all cX3_all 1 (some .int), Cond.methodLink RX3 48 yX3_fewestOf, Cond.instanceMethod yX3_fewestOf, Cond.selects RX3 yX3_fewestOf yX3_fewestOf, Cond.code yX3_fewestOf cX3_fewestOf 5 (some .int), Cond.methodLink RX3 60 Lib.Math.min.name, Cond.methodLink RX3 52 yX3_holds, Cond.static yX3_holds, Cond.code yX3_holds cX3_holds 2 (some .boolean)]
def wsX3_countClashes_r3 : List Cond := [Cond.methodLink RX3 56 yX3_ledBy, Cond.instanceMethod yX3_ledBy, Cond.selects RX3 yX3_ledBy yX3_ledBy, Cond.code yX3_ledBy cX3_ledBy 4 (some .int), Cond.methodLink RX3 65 yJ6_bitCount_0f7a4, Cond.static yJ6_bitCount_0f7a4, Cond.initialized RJ6, Cond.code yJ6_bitCount_0f7a4 cJ6_bitCount_0f7a4 1 (some .int), Cond.constant RJ6 265 (1431655765), Cond.constant RJ6 266 (858993459), Cond.constant RJ6 267 (252645135), Cond.methodLink RX3 70 yX3_without, Cond.static yX3_without, Cond.code yX3_without cX3_without 2 (some .int)]
def wsX3_countClashes : List Cond := .code yX3_countClashes cX3_countClashes 5 none :: ((wsX3_countClashes_r1 ++ (wsX3_countClashes_r2 ++ wsX3_countClashes_r3)) ++ wsX30 ++ wsX80 ++ wsX70)
def wsX3_firstOfFewest_r1 : List Cond := [Cond.fieldLink RX3 21 "WovenRows$Orders" "size" "I", Cond.fieldLink RX3 18 "WovenRows$Orders" "answers" "[I", Cond.fieldLink RX3 9 "WovenRows$Orders" "crowd" "[I", Cond.methodLink RX3 38 yX3_all, Cond.instanceMethod yX3_all, Cond.selects RX3 yX3_all yX3_all, Cond.initialized RX3, Cond.code yX3_all cX3_all 1 (some .int), Cond.methodLink RX3 52 yX3_holds, Cond.static yX3_holds, Cond.code yX3_holds cX3_holds 2 (some .boolean), Cond.methodLink RX3 56 yX3_ledBy, Cond.instanceMethod yX3_ledBy, Cond.selects RX3 yX3_ledBy yX3_ledBy, Cond.code yX3_ledBy cX3_ledBy 4 (some .int), Cond.fieldLink RX3 15 "WovenRows$Orders" "costs" "[I", Cond.methodLink RX3 65 yJ6_bitCount_0f7a4, Cond.static yJ6_bitCount_0f7a4, Cond.initialized RJ6, Cond.code yJ6_bitCount_0f7a4 cJ6_bitCount_0f7a4 1 (some .int), Cond.constant RJ6 265 (1431655765), Cond.constant RJ6 266 (858993459), Cond.constant RJ6 267 (252645135), Cond.static yX10_at]
def wsX3_firstOfFewest_r2 : List Cond := [Cond.initialized RX10, Cond.code yX10_at cX10_at 2 (some .int), Cond.methodLink RX3 70 yX3_without, Cond.static yX3_without, Cond.code yX3_without cX3_without 2 (some .int)]
def wsX3_firstOfFewest : List Cond := .code yX3_firstOfFewest cX3_firstOfFewest 6 (some .int) :: ((wsX3_firstOfFewest_r1 ++ wsX3_firstOfFewest_r2) ++ wsX30)
def wsX3_holdsMember : List Cond := .code yX3_holdsMember cX3_holdsMember 4 (some .boolean) :: ([.fieldLink RX3 21 "WovenRows$Orders" "size" "I", .fieldLink RX3 9 "WovenRows$Orders" "crowd" "[I", .methodLink RX3 52 yX3_holds, .static yX3_holds, .initialized RX3, .code yX3_holds cX3_holds 2 (some .boolean), .static yX10_at, .initialized RX10, .code yX10_at cX10_at 2 (some .int)] ++ wsX30)
def wsX3_mayLead : List Cond := .code yX3_mayLead cX3_mayLead 5 (some .boolean) :: ([.fieldLink RX3 9 "WovenRows$Orders" "crowd" "[I", .static yX10_at, .initialized RX10, .code yX10_at cX10_at 2 (some .int), .methodLink RX3 88 yX3_holdsMember, .instanceMethod yX3_holdsMember, .selects RX3 yX3_holdsMember yX3_holdsMember, .initialized RX3, .code yX3_holdsMember cX3_holdsMember 4 (some .boolean), .fieldLink RX3 21 "WovenRows$Orders" "size" "I", .methodLink RX3 52 yX3_holds, .static yX3_holds, .code yX3_holds cX3_holds 2 (some .boolean)] ++ wsX50 ++ wsX30)
def wsX3_countOrders_r1 : List Cond := [Cond.fieldLink RX3 18 "WovenRows$Orders" "answers" "[I", Cond.fieldLink RX3 21 "WovenRows$Orders" "size" "I", Cond.methodLink RX3 38 yX3_all, Cond.instanceMethod yX3_all, Cond.selects RX3 yX3_all yX3_all, Cond.initialized RX3, Cond.code yX3_all cX3_all 1 (some .int), Cond.static yX10_put, Cond.initialized RX10, Cond.code yX10_put cX10_put 3 none, Cond.methodLink RX3 52 yX3_holds, Cond.static yX3_holds, Cond.code yX3_holds cX3_holds 2 (some .boolean), Cond.methodLink RX3 73 yX3_mayLead, Cond.instanceMethod yX3_mayLead, Cond.selects RX3 yX3_mayLead yX3_mayLead, Cond.code yX3_mayLead cX3_mayLead 5 (some .boolean), Cond.fieldLink RX3 9 "WovenRows$Orders" "crowd" "[I", Cond.static yX10_at, Cond.code yX10_at cX10_at 2 (some .int), Cond.methodLink RX3 88 yX3_holdsMember, Cond.instanceMethod yX3_holdsMember, Cond.selects RX3 yX3_holdsMember yX3_holdsMember, Cond.code yX3_holdsMember cX3_holdsMember 4 (some .boolean)]
def wsX3_countOrders_r2 : List Cond := [Cond.methodLink RX3 70 yX3_without, Cond.static yX3_without, Cond.code yX3_without cX3_without 2 (some .int)]
def wsX3_countOrders : List Cond := .code yX3_countOrders cX3_countOrders 6 none :: ((wsX3_countOrders_r1 ++ wsX3_countOrders_r2) ++ wsX30 ++ wsX50)
def wsX3_firstByRules_r1 : List Cond := [Cond.fieldLink RX3 21 "WovenRows$Orders" "size" "I", Cond.fieldLink RX3 9 "WovenRows$Orders" "crowd" "[I", Cond.methodLink RX3 91 yX3_answerForAll, Cond.instanceMethod yX3_answerForAll, Cond.selects RX3 yX3_answerForAll yX3_answerForAll, Cond.initialized RX3, Cond.code yX3_answerForAll cX3_answerForAll 1 (some .int), Cond.fieldLink RX3 18 "WovenRows$Orders" "answers" "[I", Cond.methodLink RX3 38 yX3_all, Cond.instanceMethod yX3_all, Cond.selects RX3 yX3_all yX3_all, Cond.code yX3_all cX3_all 1 (some .int), Cond.static yX10_at, Cond.initialized RX10, Cond.code yX10_at cX10_at 2 (some .int), Cond.methodLink RX3 52 yX3_holds, Cond.static yX3_holds, Cond.code yX3_holds cX3_holds 2 (some .boolean), Cond.methodLink RX3 73 yX3_mayLead, Cond.instanceMethod yX3_mayLead, Cond.selects RX3 yX3_mayLead yX3_mayLead, Cond.code yX3_mayLead cX3_mayLead 5 (some .boolean), Cond.methodLink RX3 88 yX3_holdsMember, Cond.instanceMethod yX3_holdsMember]
def wsX3_firstByRules_r2 : List Cond := [Cond.selects RX3 yX3_holdsMember yX3_holdsMember, Cond.code yX3_holdsMember cX3_holdsMember 4 (some .boolean), Cond.methodLink RX3 70 yX3_without, Cond.static yX3_without, Cond.code yX3_without cX3_without 2 (some .int)]
def wsX3_firstByRules : List Cond := .code yX3_firstByRules cX3_firstByRules 7 (some .int) :: ((wsX3_firstByRules_r1 ++ wsX3_firstByRules_r2) ++ wsX30 ++ wsX50)
def wsX4_init : List Cond := .code yX4_init cX4_init 1 none :: ([.methodLink RX4 3 objectInit, .instanceMethod objectInit, .code objectInit ⟨#[0xb1]⟩ 1 none, .arrayClass .int, .fieldLink RX4 9 "WovenRows$Pad" "signs" "[I", .fieldLink RX4 15 "WovenRows$Pad" "count" "I"] ++ wsX40)
def wsX4_write : List Cond := .code yX4_write cX4_write 2 none :: ([.fieldLink RX4 15 "WovenRows$Pad" "count" "I", .fieldLink RX4 9 "WovenRows$Pad" "signs" "[I", .static yX10_put, .initialized RX10, .code yX10_put cX10_put 3 none] ++ wsX40)
def wsX4_empty : List Cond := .code yX4_empty cX4_empty 2 (some .int) :: ([.fieldLink RX4 15 "WovenRows$Pad" "count" "I"] ++ wsX40)
def wsX4_isLetter : List Cond := .code yX4_isLetter cX4_isLetter 1 (some .boolean) :: ([])
def wsX4_endsAsVerb : List Cond := .code yX4_endsAsVerb cX4_endsAsVerb 1 (some .boolean) :: ([])
def wsX4_wantsAfter : List Cond := .code yX4_wantsAfter cX4_wantsAfter 2 (some .int) :: ([.methodLink RX4 33 yX4_isLetter, .static yX4_isLetter, .initialized RX4, .code yX4_isLetter cX4_isLetter 1 (some .boolean), .methodLink RX4 37 yX4_endsAsVerb, .static yX4_endsAsVerb, .code yX4_endsAsVerb cX4_endsAsVerb 1 (some .boolean)])
def wsX4_firstFault : List Cond := .code yX4_firstFault cX4_firstFault 3 (some .int) :: ([.fieldLink RX4 15 "WovenRows$Pad" "count" "I", .fieldLink RX4 9 "WovenRows$Pad" "signs" "[I", .static yX10_at, .initialized RX10, .code yX10_at cX10_at 2 (some .int), .methodLink RX4 27 yX4_wantsAfter, .static yX4_wantsAfter, .initialized RX4, .code yX4_wantsAfter cX4_wantsAfter 2 (some .int), .methodLink RX4 33 yX4_isLetter, .static yX4_isLetter, .code yX4_isLetter cX4_isLetter 1 (some .boolean), .methodLink RX4 37 yX4_endsAsVerb, .static yX4_endsAsVerb, .code yX4_endsAsVerb cX4_endsAsVerb 1 (some .boolean)] ++ wsX40)
def wsX4_kindEndingAt : List Cond := .code yX4_kindEndingAt cX4_kindEndingAt 3 (some .int) :: ([.fieldLink RX4 9 "WovenRows$Pad" "signs" "[I", .static yX10_at, .initialized RX10, .code yX10_at cX10_at 2 (some .int), .methodLink RX4 33 yX4_isLetter, .static yX4_isLetter, .initialized RX4, .code yX4_isLetter cX4_isLetter 1 (some .boolean)] ++ wsX40)
def wsX4_memberAt : List Cond := .code yX4_memberAt cX4_memberAt 2 (some .int) :: ([.fieldLink RX4 9 "WovenRows$Pad" "signs" "[I", .static yX10_at, .initialized RX10, .code yX10_at cX10_at 2 (some .int)] ++ wsX40)
def wsX5_init : List Cond := .code yX5_init cX5_init 2 none :: ([.methodLink RX5 1 objectInit, .instanceMethod objectInit, .code objectInit ⟨#[0xb1]⟩ 1 none, .fieldLink RX5 7 "WovenRows$Pairs" "count" "I", .methodLink RX5 13 Lib.Math.max.name, .static Lib.Math.max.name, .initialized "java/lang/Math", .code Lib.Math.max.name Lib.Math.max.code 2 (some .int), .arrayClass .int, .fieldLink RX5 19 "WovenRows$Pairs" "firsts" "[I", .fieldLink RX5 23 "WovenRows$Pairs" "seconds" "[I"] ++ wsX50)
def wsX10_copy : List Cond := .code yX10_copy cX10_copy 3 none :: ([])
def wsX5_takeFrom : List Cond := .code yX5_takeFrom cX5_takeFrom 2 none :: ([.fieldLink RX5 19 "WovenRows$Pairs" "firsts" "[I", .fieldLink RX5 23 "WovenRows$Pairs" "seconds" "[I", .fieldLink RX5 7 "WovenRows$Pairs" "count" "I", .static yX10_copy, .initialized RX10, .code yX10_copy cX10_copy 3 none] ++ wsX50)
def wsX5_append : List Cond := .code yX5_append cX5_append 3 none :: ([.fieldLink RX5 7 "WovenRows$Pairs" "count" "I", .fieldLink RX5 19 "WovenRows$Pairs" "firsts" "[I", .fieldLink RX5 23 "WovenRows$Pairs" "seconds" "[I", .static yX10_put, .initialized RX10, .code yX10_put cX10_put 3 none] ++ wsX50)
def wsX5_empty : List Cond := .code yX5_empty cX5_empty 2 (some .int) :: ([.fieldLink RX5 7 "WovenRows$Pairs" "count" "I"] ++ wsX50)
def wsX6_init : List Cond := .code yX6_init cX6_init 1 none :: ([.methodLink RX6 1 objectInit, .instanceMethod objectInit, .code objectInit ⟨#[0xb1]⟩ 1 none, .fieldLink RX6 7 "WovenRows$Rehearsal" "acts" "I", .fieldLink RX6 13 "WovenRows$Rehearsal" "why" "I"] ++ wsX60)
def wsX7_takeFrom : List Cond := .code yX7_takeFrom cX7_takeFrom 2 none :: ([.fieldLink RX7 9 "WovenRows$Rows" "rowOf" "[I", .fieldLink RX7 15 "WovenRows$Rows" "placeOf" "[I", .fieldLink RX7 18 "WovenRows$Rows" "rung" "I", .static yX10_copy, .initialized RX10, .code yX10_copy cX10_copy 3 none] ++ wsX70)
def wsX8_takeFrom_r1 : List Cond := [Cond.fieldLink RX8 9 "WovenRows$Town" "widths" "[I", Cond.fieldLink RX8 15 "WovenRows$Town" "keys" "[I", Cond.fieldLink RX8 18 "WovenRows$Town" "cells" "[I", Cond.fieldLink RX8 21 "WovenRows$Town" "delays" "[I", Cond.fieldLink RX8 27 "WovenRows$Town" "rows" "LWovenRows$Rows;", Cond.fieldLink RX8 36 "WovenRows$Town" "rules" "LWovenRows$Pairs;", Cond.fieldLink RX8 40 "WovenRows$Town" "sights" "LWovenRows$Pairs;", Cond.static yX10_copy, Cond.initialized RX10, Cond.code yX10_copy cX10_copy 3 none, Cond.methodLink RX8 51 yX7_takeFrom, Cond.instanceMethod yX7_takeFrom, Cond.selects RX7 yX7_takeFrom yX7_takeFrom, Cond.initialized RX7, Cond.code yX7_takeFrom cX7_takeFrom 2 none, Cond.fieldLink RX7 9 "WovenRows$Rows" "rowOf" "[I", Cond.fieldLink RX7 15 "WovenRows$Rows" "placeOf" "[I", Cond.fieldLink RX7 18 "WovenRows$Rows" "rung" "I", Cond.methodLink RX8 55 yX5_takeFrom, Cond.instanceMethod yX5_takeFrom, Cond.selects RX5 yX5_takeFrom yX5_takeFrom, Cond.initialized RX5, Cond.code yX5_takeFrom cX5_takeFrom 2 none, Cond.fieldLink RX5 19 "WovenRows$Pairs" "firsts" "[I"]
def wsX8_takeFrom_r2 : List Cond := [Cond.fieldLink RX5 23 "WovenRows$Pairs" "seconds" "[I", Cond.fieldLink RX5 7 "WovenRows$Pairs" "count" "I"]
def wsX8_takeFrom : List Cond := .code yX8_takeFrom cX8_takeFrom 2 none :: ((wsX8_takeFrom_r1 ++ wsX8_takeFrom_r2) ++ wsX80 ++ wsX70 ++ wsX50)
def wsX7_lengthOf : List Cond := .code yX7_lengthOf cX7_lengthOf 4 (some .int) :: ([.fieldLink RX7 9 "WovenRows$Rows" "rowOf" "[I"] ++ wsX70)
def wsX7_reasonAgainstJoining : List Cond := .code yX7_reasonAgainstJoining cX7_reasonAgainstJoining 3 (some .int) :: ([.fieldLink RX7 9 "WovenRows$Rows" "rowOf" "[I", .static yX10_at, .initialized RX10, .code yX10_at cX10_at 2 (some .int), .methodLink RX7 46 yX7_lengthOf, .instanceMethod yX7_lengthOf, .selects RX7 yX7_lengthOf yX7_lengthOf, .initialized RX7, .code yX7_lengthOf cX7_lengthOf 4 (some .int)] ++ wsX70)
def wsX7_reasonAgainst : List Cond := .code yX7_reasonAgainst cX7_reasonAgainst 4 (some .int) :: ([.fieldLink RX7 9 "WovenRows$Rows" "rowOf" "[I", .fieldLink RX7 18 "WovenRows$Rows" "rung" "I", .methodLink RX7 42 yX7_reasonAgainstJoining, .instanceMethod yX7_reasonAgainstJoining, .selects RX7 yX7_reasonAgainstJoining yX7_reasonAgainstJoining, .initialized RX7, .code yX7_reasonAgainstJoining cX7_reasonAgainstJoining 3 (some .int), .static yX10_at, .initialized RX10, .code yX10_at cX10_at 2 (some .int), .methodLink RX7 46 yX7_lengthOf, .instanceMethod yX7_lengthOf, .selects RX7 yX7_lengthOf yX7_lengthOf, .code yX7_lengthOf cX7_lengthOf 4 (some .int)] ++ wsX70)
def wsX7_join : List Cond := .code yX7_join cX7_join 3 none :: ([.fieldLink RX7 15 "WovenRows$Rows" "placeOf" "[I", .fieldLink RX7 9 "WovenRows$Rows" "rowOf" "[I", .methodLink RX7 46 yX7_lengthOf, .instanceMethod yX7_lengthOf, .selects RX7 yX7_lengthOf yX7_lengthOf, .initialized RX7, .code yX7_lengthOf cX7_lengthOf 4 (some .int), .static yX10_put, .initialized RX10, .code yX10_put cX10_put 3 none] ++ wsX70)
def wsX7_leave : List Cond := .code yX7_leave cX7_leave 6 none :: ([.fieldLink RX7 9 "WovenRows$Rows" "rowOf" "[I", .fieldLink RX7 15 "WovenRows$Rows" "placeOf" "[I", .static yX10_at, .initialized RX10, .code yX10_at cX10_at 2 (some .int), .static yX10_put, .code yX10_put cX10_put 3 none] ++ wsX70)
def wsX7_swap : List Cond := .code yX7_swap cX7_swap 4 none :: ([.static yX10_at, .initialized RX10, .code yX10_at cX10_at 2 (some .int), .static yX10_put, .code yX10_put cX10_put 3 none])
def wsX7_carryOut : List Cond := .code yX7_carryOut cX7_carryOut 4 none :: ([.fieldLink RX7 9 "WovenRows$Rows" "rowOf" "[I", .fieldLink RX7 15 "WovenRows$Rows" "placeOf" "[I", .fieldLink RX7 18 "WovenRows$Rows" "rung" "I", .methodLink RX7 50 yX7_join, .instanceMethod yX7_join, .selects RX7 yX7_join yX7_join, .initialized RX7, .code yX7_join cX7_join 3 none, .methodLink RX7 46 yX7_lengthOf, .instanceMethod yX7_lengthOf, .selects RX7 yX7_lengthOf yX7_lengthOf, .code yX7_lengthOf cX7_lengthOf 4 (some .int), .static yX10_put, .initialized RX10, .code yX10_put cX10_put 3 none, .methodLink RX7 54 yX7_leave, .instanceMethod yX7_leave, .selects RX7 yX7_leave yX7_leave, .code yX7_leave cX7_leave 6 none, .static yX10_at, .code yX10_at cX10_at 2 (some .int), .methodLink RX7 58 yX7_swap, .static yX7_swap, .code yX7_swap cX7_swap 4 none] ++ wsX70)
def wsX7_attempt_r1 : List Cond := [Cond.methodLink RX7 34 yX7_reasonAgainst, Cond.instanceMethod yX7_reasonAgainst, Cond.selects RX7 yX7_reasonAgainst yX7_reasonAgainst, Cond.initialized RX7, Cond.code yX7_reasonAgainst cX7_reasonAgainst 4 (some .int), Cond.fieldLink RX7 9 "WovenRows$Rows" "rowOf" "[I", Cond.fieldLink RX7 18 "WovenRows$Rows" "rung" "I", Cond.methodLink RX7 42 yX7_reasonAgainstJoining, Cond.instanceMethod yX7_reasonAgainstJoining, Cond.selects RX7 yX7_reasonAgainstJoining yX7_reasonAgainstJoining, Cond.code yX7_reasonAgainstJoining cX7_reasonAgainstJoining 3 (some .int), Cond.static yX10_at, Cond.initialized RX10, Cond.code yX10_at cX10_at 2 (some .int), Cond.methodLink RX7 46 yX7_lengthOf, Cond.instanceMethod yX7_lengthOf, Cond.selects RX7 yX7_lengthOf yX7_lengthOf, Cond.code yX7_lengthOf cX7_lengthOf 4 (some .int), Cond.methodLink RX7 38 yX7_carryOut, Cond.instanceMethod yX7_carryOut, Cond.selects RX7 yX7_carryOut yX7_carryOut, Cond.code yX7_carryOut cX7_carryOut 4 none, Cond.fieldLink RX7 15 "WovenRows$Rows" "placeOf" "[I", Cond.methodLink RX7 50 yX7_join]
def wsX7_attempt_r2 : List Cond := [Cond.instanceMethod yX7_join, Cond.selects RX7 yX7_join yX7_join, Cond.code yX7_join cX7_join 3 none, Cond.static yX10_put, Cond.code yX10_put cX10_put 3 none, Cond.methodLink RX7 54 yX7_leave, Cond.instanceMethod yX7_leave, Cond.selects RX7 yX7_leave yX7_leave, Cond.code yX7_leave cX7_leave 6 none, Cond.methodLink RX7 58 yX7_swap, Cond.static yX7_swap, Cond.code yX7_swap cX7_swap 4 none]
def wsX7_attempt : List Cond := .code yX7_attempt cX7_attempt 5 (some .int) :: ((wsX7_attempt_r1 ++ wsX7_attempt_r2) ++ wsX70)
def wsX6_play_r1 : List Cond := [Cond.fieldLink RX6 7 "WovenRows$Rehearsal" "acts" "I", Cond.fieldLink RX6 13 "WovenRows$Rehearsal" "why" "I", Cond.methodLink RX6 16 yX8_takeFrom, Cond.instanceMethod yX8_takeFrom, Cond.selects RX8 yX8_takeFrom yX8_takeFrom, Cond.initialized RX8, Cond.code yX8_takeFrom cX8_takeFrom 2 none, Cond.fieldLink RX8 9 "WovenRows$Town" "widths" "[I", Cond.fieldLink RX8 15 "WovenRows$Town" "keys" "[I", Cond.fieldLink RX8 18 "WovenRows$Town" "cells" "[I", Cond.fieldLink RX8 21 "WovenRows$Town" "delays" "[I", Cond.fieldLink RX8 27 "WovenRows$Town" "rows" "LWovenRows$Rows;", Cond.fieldLink RX8 36 "WovenRows$Town" "rules" "LWovenRows$Pairs;", Cond.fieldLink RX8 40 "WovenRows$Town" "sights" "LWovenRows$Pairs;", Cond.static yX10_copy, Cond.initialized RX10, Cond.code yX10_copy cX10_copy 3 none, Cond.methodLink RX8 51 yX7_takeFrom, Cond.instanceMethod yX7_takeFrom, Cond.selects RX7 yX7_takeFrom yX7_takeFrom, Cond.initialized RX7, Cond.code yX7_takeFrom cX7_takeFrom 2 none, Cond.fieldLink RX7 9 "WovenRows$Rows" "rowOf" "[I", Cond.fieldLink RX7 15 "WovenRows$Rows" "placeOf" "[I"]
def wsX6_play_r2 : List Cond := [Cond.fieldLink RX7 18 "WovenRows$Rows" "rung" "I", Cond.methodLink RX8 55 yX5_takeFrom, Cond.instanceMethod yX5_takeFrom, Cond.selects RX5 yX5_takeFrom yX5_takeFrom, Cond.initialized RX5, Cond.code yX5_takeFrom cX5_takeFrom 2 none, Cond.fieldLink RX5 19 "WovenRows$Pairs" "firsts" "[I", Cond.fieldLink RX5 23 "WovenRows$Pairs" "seconds" "[I", Cond.fieldLink RX5 7 "WovenRows$Pairs" "count" "I", Cond.methodLink RX6 27 yX4_kindEndingAt, Cond.instanceMethod yX4_kindEndingAt, Cond.selects RX4 yX4_kindEndingAt yX4_kindEndingAt, Cond.initialized RX4, Cond.code yX4_kindEndingAt cX4_kindEndingAt 3 (some .int), Cond.fieldLink RX4 9 "WovenRows$Pad" "signs" "[I", Cond.static yX10_at, Cond.code yX10_at cX10_at 2 (some .int), Cond.methodLink RX4 33 yX4_isLetter, Cond.static yX4_isLetter, Cond.code yX4_isLetter cX4_isLetter 1 (some .boolean), Cond.methodLink RX6 37 yX4_memberAt, Cond.instanceMethod yX4_memberAt, Cond.selects RX4 yX4_memberAt yX4_memberAt, Cond.code yX4_memberAt cX4_memberAt 2 (some .int)]
def wsX6_play_r3 : List Cond := [Cond.methodLink RX6 40 yX7_attempt, Cond.instanceMethod yX7_attempt, Cond.selects RX7 yX7_attempt yX7_attempt, Cond.code yX7_attempt cX7_attempt 5 (some .int), Cond.methodLink RX7 34 yX7_reasonAgainst, Cond.instanceMethod yX7_reasonAgainst, Cond.selects RX7 yX7_reasonAgainst yX7_reasonAgainst, Cond.code yX7_reasonAgainst cX7_reasonAgainst 4 (some .int), Cond.methodLink RX7 42 yX7_reasonAgainstJoining, Cond.instanceMethod yX7_reasonAgainstJoining, Cond.selects RX7 yX7_reasonAgainstJoining yX7_reasonAgainstJoining, Cond.code yX7_reasonAgainstJoining cX7_reasonAgainstJoining 3 (some .int), Cond.methodLink RX7 46 yX7_lengthOf, Cond.instanceMethod yX7_lengthOf, Cond.selects RX7 yX7_lengthOf yX7_lengthOf, Cond.code yX7_lengthOf cX7_lengthOf 4 (some .int), Cond.methodLink RX7 38 yX7_carryOut, Cond.instanceMethod yX7_carryOut, Cond.selects RX7 yX7_carryOut yX7_carryOut, Cond.code yX7_carryOut cX7_carryOut 4 none, Cond.methodLink RX7 50 yX7_join, Cond.instanceMethod yX7_join, Cond.selects RX7 yX7_join yX7_join, Cond.code yX7_join cX7_join 3 none]
def wsX6_play_r4 : List Cond := [Cond.static yX10_put, Cond.code yX10_put cX10_put 3 none, Cond.methodLink RX7 54 yX7_leave, Cond.instanceMethod yX7_leave, Cond.selects RX7 yX7_leave yX7_leave, Cond.code yX7_leave cX7_leave 6 none, Cond.methodLink RX7 58 yX7_swap, Cond.static yX7_swap, Cond.code yX7_swap cX7_swap 4 none]
def wsX6_play : List Cond := .code yX6_play cX6_play 7 none :: ((wsX6_play_r1 ++ (wsX6_play_r2 ++ (wsX6_play_r3 ++ wsX6_play_r4))) ++ wsX60 ++ wsX40 ++ wsX80 ++ wsX70 ++ wsX50)
def wsX10_fill : List Cond := .code yX10_fill cX10_fill 3 none :: ([])
def wsX7_init : List Cond := .code yX7_init cX7_init 1 none :: ([.methodLink RX7 3 objectInit, .instanceMethod objectInit, .code objectInit ⟨#[0xb1]⟩ 1 none, .arrayClass .int, .fieldLink RX7 9 "WovenRows$Rows" "rowOf" "[I", .fieldLink RX7 15 "WovenRows$Rows" "placeOf" "[I", .fieldLink RX7 18 "WovenRows$Rows" "rung" "I", .static yX10_fill, .initialized RX10, .code yX10_fill cX10_fill 3 none] ++ wsX70)
def wsX7_whoIsAt : List Cond := .code yX7_whoIsAt cX7_whoIsAt 4 (some .int) :: ([.fieldLink RX7 9 "WovenRows$Rows" "rowOf" "[I", .fieldLink RX7 15 "WovenRows$Rows" "placeOf" "[I", .static yX10_at, .initialized RX10, .code yX10_at cX10_at 2 (some .int)] ++ wsX70)
def wsX7_drawnKind : List Cond := .code yX7_drawnKind cX7_drawnKind 1 (some .int) :: ([.fieldLink RX7 72 "WovenRows$Rows" "DRAWN" "[C"])
def wsX7_drawYear_r1 : List Cond := [Cond.constant RX7 65 (65537), Cond.methodLink RX7 66 yX7_drawnKind, Cond.static yX7_drawnKind, Cond.initialized RX7, Cond.code yX7_drawnKind cX7_drawnKind 1 (some .int), Cond.fieldLink RX7 72 "WovenRows$Rows" "DRAWN" "[C", Cond.methodLink RX7 69 yX7_attempt, Cond.instanceMethod yX7_attempt, Cond.selects RX7 yX7_attempt yX7_attempt, Cond.code yX7_attempt cX7_attempt 5 (some .int), Cond.methodLink RX7 34 yX7_reasonAgainst, Cond.instanceMethod yX7_reasonAgainst, Cond.selects RX7 yX7_reasonAgainst yX7_reasonAgainst, Cond.code yX7_reasonAgainst cX7_reasonAgainst 4 (some .int), Cond.fieldLink RX7 9 "WovenRows$Rows" "rowOf" "[I", Cond.fieldLink RX7 18 "WovenRows$Rows" "rung" "I", Cond.methodLink RX7 42 yX7_reasonAgainstJoining, Cond.instanceMethod yX7_reasonAgainstJoining, Cond.selects RX7 yX7_reasonAgainstJoining yX7_reasonAgainstJoining, Cond.code yX7_reasonAgainstJoining cX7_reasonAgainstJoining 3 (some .int), Cond.static yX10_at, Cond.initialized RX10, Cond.code yX10_at cX10_at 2 (some .int), Cond.methodLink RX7 46 yX7_lengthOf]
def wsX7_drawYear_r2 : List Cond := [Cond.instanceMethod yX7_lengthOf, Cond.selects RX7 yX7_lengthOf yX7_lengthOf, Cond.code yX7_lengthOf cX7_lengthOf 4 (some .int), Cond.methodLink RX7 38 yX7_carryOut, Cond.instanceMethod yX7_carryOut, Cond.selects RX7 yX7_carryOut yX7_carryOut, Cond.code yX7_carryOut cX7_carryOut 4 none, Cond.fieldLink RX7 15 "WovenRows$Rows" "placeOf" "[I", Cond.methodLink RX7 50 yX7_join, Cond.instanceMethod yX7_join, Cond.selects RX7 yX7_join yX7_join, Cond.code yX7_join cX7_join 3 none, Cond.static yX10_put, Cond.code yX10_put cX10_put 3 none, Cond.methodLink RX7 54 yX7_leave, Cond.instanceMethod yX7_leave, Cond.selects RX7 yX7_leave yX7_leave, Cond.code yX7_leave cX7_leave 6 none, Cond.methodLink RX7 58 yX7_swap, Cond.static yX7_swap, Cond.code yX7_swap cX7_swap 4 none]
def wsX7_drawYear : List Cond := .code yX7_drawYear cX7_drawYear 5 none :: ((wsX7_drawYear_r1 ++ wsX7_drawYear_r2) ++ wsX70)
def wsX8_init_r1 : List Cond := [Cond.methodLink RX8 3 objectInit, Cond.instanceMethod objectInit, Cond.code objectInit ⟨#[0xb1]⟩ 1 none, Cond.arrayClass .int, Cond.fieldLink RX8 9 "WovenRows$Town" "widths" "[I", Cond.fieldLink RX8 15 "WovenRows$Town" "keys" "[I", Cond.fieldLink RX8 18 "WovenRows$Town" "cells" "[I", Cond.fieldLink RX8 21 "WovenRows$Town" "delays" "[I", Cond.classLink RX8 24 RX7, Cond.instantiable RX7 3, Cond.initialized RX7, Cond.fieldLink RX8 27 "WovenRows$Town" "rows" "LWovenRows$Rows;", Cond.classLink RX8 31 RX5, Cond.instantiable RX5 3, Cond.initialized RX5, Cond.fieldLink RX8 36 "WovenRows$Town" "rules" "LWovenRows$Pairs;", Cond.fieldLink RX8 40 "WovenRows$Town" "sights" "LWovenRows$Pairs;", Cond.methodLink RX8 26 yX7_init, Cond.instanceMethod yX7_init, Cond.code yX7_init cX7_init 1 none, Cond.methodLink RX7 3 objectInit, Cond.fieldLink RX7 9 "WovenRows$Rows" "rowOf" "[I", Cond.fieldLink RX7 15 "WovenRows$Rows" "placeOf" "[I", Cond.fieldLink RX7 18 "WovenRows$Rows" "rung" "I"]
def wsX8_init_r2 : List Cond := [Cond.static yX10_fill, Cond.initialized RX10, Cond.code yX10_fill cX10_fill 3 none, Cond.methodLink RX8 33 yX5_init, Cond.instanceMethod yX5_init, Cond.code yX5_init cX5_init 2 none, Cond.methodLink RX5 1 objectInit, Cond.fieldLink RX5 7 "WovenRows$Pairs" "count" "I", Cond.methodLink RX5 13 Lib.Math.max.name, Cond.static Lib.Math.max.name, Cond.initialized "java/lang/Math", Cond.code Lib.Math.max.name Lib.Math.max.code 2 (some .int), Cond.fieldLink RX5 19 "WovenRows$Pairs" "firsts" "[I", Cond.fieldLink RX5 23 "WovenRows$Pairs" "seconds" "[I"]
def wsX8_init : List Cond := .code yX8_init cX8_init 1 none :: ((wsX8_init_r1 ++ wsX8_init_r2) ++ wsX80 ++ wsX70 ++ wsX50)
def wsX8_emptyFrom : List Cond := .code yX8_emptyFrom cX8_emptyFrom 3 (some .int) :: ([.fieldLink RX8 27 "WovenRows$Town" "rows" "LWovenRows$Rows;", .fieldLink RX8 21 "WovenRows$Town" "delays" "[I", .methodLink RX8 68 yX7_lengthOf, .instanceMethod yX7_lengthOf, .selects RX7 yX7_lengthOf yX7_lengthOf, .initialized RX7, .code yX7_lengthOf cX7_lengthOf 4 (some .int), .fieldLink RX7 9 "WovenRows$Rows" "rowOf" "[I", .static yX10_at, .initialized RX10, .code yX10_at cX10_at 2 (some .int)] ++ wsX80 ++ wsX70)
def wsX9_init : List Cond := .code yX9_init cX9_init 1 none :: ([.methodLink RX9 3 objectInit, .instanceMethod objectInit, .code objectInit ⟨#[0xb1]⟩ 1 none, .arrayClass .int, .fieldLink RX9 9 "WovenRows$Watch" "rowOf" "[I", .fieldLink RX9 15 "WovenRows$Watch" "startOf" "[I", .fieldLink RX9 18 "WovenRows$Watch" "tally" "[I", .fieldLink RX9 21 "WovenRows$Watch" "count" "I", .fieldLink RX9 25 "WovenRows$Watch" "memberBits" "I", .fieldLink RX9 28 "WovenRows$Watch" "lateBits" "I"] ++ wsX90)
def wsX9_cellAt : List Cond := .code yX9_cellAt cX9_cellAt 4 (some .int) :: ([.static yX10_within, .initialized RX10, .code yX10_within cX10_within 3 (some .boolean)])
def wsX9_allAreSo : List Cond := .code yX9_allAreSo cX9_allAreSo 4 (some .boolean) :: ([.static yX10_at, .initialized RX10, .code yX10_at cX10_at 2 (some .int), .methodLink RX9 65 yX9_cellAt, .static yX9_cellAt, .initialized RX9, .code yX9_cellAt cX9_cellAt 4 (some .int), .static yX10_within, .code yX10_within cX10_within 3 (some .boolean)] ++ wsX50)
def wsX9_fit_r1 : List Cond := [Cond.fieldLink RX9 21 "WovenRows$Watch" "count" "I", Cond.fieldLink RX9 25 "WovenRows$Watch" "memberBits" "I", Cond.fieldLink RX9 28 "WovenRows$Watch" "lateBits" "I", Cond.fieldLink RX9 9 "WovenRows$Watch" "rowOf" "[I", Cond.fieldLink RX9 15 "WovenRows$Watch" "startOf" "[I", Cond.static yX10_at, Cond.initialized RX10, Cond.code yX10_at cX10_at 2 (some .int), Cond.methodLink RX9 44 yX8_startOf, Cond.instanceMethod yX8_startOf, Cond.selects RX8 yX8_startOf yX8_startOf, Cond.initialized RX8, Cond.code yX8_startOf cX8_startOf 2 (some .int), Cond.fieldLink RX8 21 "WovenRows$Town" "delays" "[I", Cond.fieldLink RX8 27 "WovenRows$Town" "rows" "LWovenRows$Rows;", Cond.methodLink RX9 51 yX9_allAreSo, Cond.static yX9_allAreSo, Cond.initialized RX9, Cond.code yX9_allAreSo cX9_allAreSo 4 (some .boolean), Cond.methodLink RX9 65 yX9_cellAt, Cond.static yX9_cellAt, Cond.code yX9_cellAt cX9_cellAt 4 (some .int), Cond.static yX10_within, Cond.code yX10_within cX10_within 3 (some .boolean)]
def wsX9_fit_r2 : List Cond := [Cond.static yX10_put, Cond.code yX10_put cX10_put 3 none]
def wsX9_fit : List Cond := .code yX9_fit cX9_fit 6 none :: ((wsX9_fit_r1 ++ wsX9_fit_r2) ++ wsX90 ++ wsX80 ++ wsX70 ++ wsX50)
def wsX9_mostLeftAt : List Cond := .code yX9_mostLeftAt cX9_mostLeftAt 6 (some .int) :: ([.fieldLink RX9 18 "WovenRows$Watch" "tally" "[I", .fieldLink RX9 21 "WovenRows$Watch" "count" "I", .fieldLink RX9 9 "WovenRows$Watch" "rowOf" "[I", .fieldLink RX9 15 "WovenRows$Watch" "startOf" "[I", .methodLink RX9 80 Lib.Math.max.name, .static Lib.Math.max.name, .initialized "java/lang/Math", .code Lib.Math.max.name Lib.Math.max.code 2 (some .int), .static yX10_fill, .initialized RX10, .code yX10_fill cX10_fill 3 none, .static yX10_at, .code yX10_at cX10_at 2 (some .int), .methodLink RX9 65 yX9_cellAt, .static yX9_cellAt, .initialized RX9, .code yX9_cellAt cX9_cellAt 4 (some .int), .static yX10_within, .code yX10_within cX10_within 3 (some .boolean), .static yX10_put, .code yX10_put cX10_put 3 none] ++ wsX90)
def wsX10_init_r1 : List Cond := [Cond.methodLink RX10 1 objectInit, Cond.instanceMethod objectInit, Cond.code objectInit ⟨#[0xb1]⟩ 1 none, Cond.classLink RX10 7 RX8, Cond.instantiable RX8 7, Cond.initialized RX8, Cond.fieldLink RX10 10 "WovenRows" "town" "LWovenRows$Town;", Cond.fieldLink RX10 16 "WovenRows" "trial" "LWovenRows$Town;", Cond.fieldLink RX10 19 "WovenRows" "firstImage" "LWovenRows$Town;", Cond.fieldLink RX10 22 "WovenRows" "secondImage" "LWovenRows$Town;", Cond.fieldLink RX10 25 "WovenRows" "keptImages" "I", Cond.classLink RX10 29 RX4, Cond.instantiable RX4 2, Cond.initialized RX4, Cond.fieldLink RX10 32 "WovenRows" "pad" "LWovenRows$Pad;", Cond.classLink RX10 36 RX6, Cond.instantiable RX6 2, Cond.initialized RX6, Cond.fieldLink RX10 39 "WovenRows" "rehearsal" "LWovenRows$Rehearsal;", Cond.classLink RX10 43 RX1, Cond.instantiable RX1 5, Cond.initialized RX1, Cond.fieldLink RX10 46 "WovenRows" "meetings" "LWovenRows$Meetings;", Cond.classLink RX10 50 RX3]
def wsX10_init_r2 : List Cond := [Cond.instantiable RX3 4, Cond.initialized RX3, Cond.fieldLink RX10 53 "WovenRows" "arranging" "LWovenRows$Orders;", Cond.classLink RX10 57 RX9, Cond.instantiable RX9 6, Cond.initialized RX9, Cond.fieldLink RX10 60 "WovenRows" "watch" "LWovenRows$Watch;", Cond.classLink RX10 64 RX0, Cond.instantiable RX0 2, Cond.initialized RX0, Cond.fieldLink RX10 67 "WovenRows" "fewest" "LWovenRows$Fewest;", Cond.classLink RX10 71 RX2, Cond.instantiable RX2 3, Cond.initialized RX2, Cond.fieldLink RX10 74 "WovenRows" "odds" "LWovenRows$Odds;", Cond.methodLink RX10 9 yX8_init, Cond.instanceMethod yX8_init, Cond.code yX8_init cX8_init 1 none, Cond.methodLink RX8 3 objectInit, Cond.arrayClass .int, Cond.fieldLink RX8 9 "WovenRows$Town" "widths" "[I", Cond.fieldLink RX8 15 "WovenRows$Town" "keys" "[I", Cond.fieldLink RX8 18 "WovenRows$Town" "cells" "[I", Cond.fieldLink RX8 21 "WovenRows$Town" "delays" "[I"]
def wsX10_init_r3 : List Cond := [Cond.classLink RX8 24 RX7, Cond.instantiable RX7 3, Cond.initialized RX7, Cond.fieldLink RX8 27 "WovenRows$Town" "rows" "LWovenRows$Rows;", Cond.classLink RX8 31 RX5, Cond.instantiable RX5 3, Cond.initialized RX5, Cond.fieldLink RX8 36 "WovenRows$Town" "rules" "LWovenRows$Pairs;", Cond.fieldLink RX8 40 "WovenRows$Town" "sights" "LWovenRows$Pairs;", Cond.methodLink RX8 26 yX7_init, Cond.instanceMethod yX7_init, Cond.code yX7_init cX7_init 1 none, Cond.methodLink RX7 3 objectInit, Cond.fieldLink RX7 9 "WovenRows$Rows" "rowOf" "[I", Cond.fieldLink RX7 15 "WovenRows$Rows" "placeOf" "[I", Cond.fieldLink RX7 18 "WovenRows$Rows" "rung" "I", Cond.static yX10_fill, Cond.initialized RX10, Cond.code yX10_fill cX10_fill 3 none, Cond.methodLink RX8 33 yX5_init, Cond.instanceMethod yX5_init, Cond.code yX5_init cX5_init 2 none, Cond.methodLink RX5 1 objectInit, Cond.fieldLink RX5 7 "WovenRows$Pairs" "count" "I"]
def wsX10_init_r4 : List Cond := [Cond.methodLink RX5 13 Lib.Math.max.name, Cond.static Lib.Math.max.name, Cond.initialized "java/lang/Math", Cond.code Lib.Math.max.name Lib.Math.max.code 2 (some .int), Cond.fieldLink RX5 19 "WovenRows$Pairs" "firsts" "[I", Cond.fieldLink RX5 23 "WovenRows$Pairs" "seconds" "[I", Cond.instanceMethod yX4_init, Cond.code yX4_init cX4_init 1 none, Cond.methodLink RX4 3 objectInit, Cond.fieldLink RX4 9 "WovenRows$Pad" "signs" "[I", Cond.fieldLink RX4 15 "WovenRows$Pad" "count" "I", Cond.instanceMethod yX6_init, Cond.code yX6_init cX6_init 1 none, Cond.methodLink RX6 1 objectInit, Cond.fieldLink RX6 7 "WovenRows$Rehearsal" "acts" "I", Cond.fieldLink RX6 13 "WovenRows$Rehearsal" "why" "I", Cond.instanceMethod yX1_init, Cond.code yX1_init cX1_init 1 none, Cond.methodLink RX1 3 objectInit, Cond.fieldLink RX1 9 "WovenRows$Meetings" "twos" "I", Cond.fieldLink RX1 15 "WovenRows$Meetings" "clashes" "I", Cond.fieldLink RX1 18 "WovenRows$Meetings" "first" "I", Cond.fieldLink RX1 21 "WovenRows$Meetings" "where" "I", Cond.fieldLink RX1 24 "WovenRows$Meetings" "firstTurn" "I"]
def wsX10_init_r5 : List Cond := [Cond.instanceMethod yX3_init, Cond.code yX3_init cX3_init 1 none, Cond.methodLink RX3 3 objectInit, Cond.fieldLink RX3 9 "WovenRows$Orders" "crowd" "[I", Cond.fieldLink RX3 15 "WovenRows$Orders" "costs" "[I", Cond.fieldLink RX3 18 "WovenRows$Orders" "answers" "[I", Cond.fieldLink RX3 21 "WovenRows$Orders" "size" "I", Cond.instanceMethod yX9_init, Cond.code yX9_init cX9_init 1 none, Cond.methodLink RX9 3 objectInit, Cond.fieldLink RX9 9 "WovenRows$Watch" "rowOf" "[I", Cond.fieldLink RX9 15 "WovenRows$Watch" "startOf" "[I", Cond.fieldLink RX9 18 "WovenRows$Watch" "tally" "[I", Cond.fieldLink RX9 21 "WovenRows$Watch" "count" "I", Cond.fieldLink RX9 25 "WovenRows$Watch" "memberBits" "I", Cond.fieldLink RX9 28 "WovenRows$Watch" "lateBits" "I", Cond.instanceMethod yX0_init, Cond.code yX0_init cX0_init 1 none, Cond.methodLink RX0 3 objectInit, Cond.fieldLink RX0 9 "WovenRows$Fewest" "by" "I", Cond.fieldLink RX0 15 "WovenRows$Fewest" "count" "I", Cond.instanceMethod yX2_init, Cond.code yX2_init cX2_init 1 none, Cond.methodLink RX2 3 objectInit]
def wsX10_init_r6 : List Cond := [Cond.arrayClass .long, Cond.fieldLink RX2 9 "WovenRows$Odds" "weights" "[J", Cond.fieldLink RX2 15 "WovenRows$Odds" "upper" "J", Cond.fieldLink RX2 19 "WovenRows$Odds" "lower" "J"]
def wsX10_init : List Cond := .code yX10_init cX10_init 1 none :: ((wsX10_init_r1 ++ (wsX10_init_r2 ++ (wsX10_init_r3 ++ (wsX10_init_r4 ++ (wsX10_init_r5 ++ wsX10_init_r6))))) ++ wsX80 ++ wsX100 ++ wsX40 ++ wsX60 ++ wsX10 ++ wsX30 ++ wsX90 ++ wsX00 ++ wsX20 ++ wsX70 ++ wsX50)
def wsX10_member : List Cond := .code yX10_member cX10_member 5 (some .int) :: ([.fieldLink RX10 10 "WovenRows" "town" "LWovenRows$Town;", .methodLink RX10 78 yX10_within, .static yX10_within, .initialized RX10, .code yX10_within cX10_within 3 (some .boolean), .methodLink RX10 86 yX10_at, .static yX10_at, .code yX10_at cX10_at 2 (some .int), .methodLink RX10 90 yX10_put, .static yX10_put, .code yX10_put cX10_put 3 none] ++ wsX100 ++ wsX80)
def wsX10_wide : List Cond := .code yX10_wide cX10_wide 4 (some .int) :: ([.fieldLink RX10 10 "WovenRows" "town" "LWovenRows$Town;", .methodLink RX10 78 yX10_within, .static yX10_within, .initialized RX10, .code yX10_within cX10_within 3 (some .boolean), .methodLink RX10 86 yX10_at, .static yX10_at, .code yX10_at cX10_at 2 (some .int), .methodLink RX10 90 yX10_put, .static yX10_put, .code yX10_put cX10_put 3 none] ++ wsX100 ++ wsX80)
def wsX10_isRow : List Cond := .code yX10_isRow cX10_isRow 1 (some .boolean) :: ([])
def wsX10_delay : List Cond := .code yX10_delay cX10_delay 4 (some .int) :: ([.fieldLink RX10 10 "WovenRows" "town" "LWovenRows$Town;", .methodLink RX10 100 yX10_isRow, .static yX10_isRow, .initialized RX10, .code yX10_isRow cX10_isRow 1 (some .boolean), .methodLink RX10 78 yX10_within, .static yX10_within, .code yX10_within cX10_within 3 (some .boolean), .methodLink RX10 86 yX10_at, .static yX10_at, .code yX10_at cX10_at 2 (some .int), .methodLink RX10 90 yX10_put, .static yX10_put, .code yX10_put cX10_put 3 none] ++ wsX100 ++ wsX80)
def wsX10_say : List Cond := .code yX10_say cX10_say 2 (some .int) :: ([.fieldLink RX10 32 "WovenRows" "pad" "LWovenRows$Pad;", .methodLink RX10 78 yX10_within, .static yX10_within, .initialized RX10, .code yX10_within cX10_within 3 (some .boolean), .methodLink RX10 110 yX4_write, .instanceMethod yX4_write, .selects RX4 yX4_write yX4_write, .initialized RX4, .code yX4_write cX4_write 2 none, .fieldLink RX4 15 "WovenRows$Pad" "count" "I", .fieldLink RX4 9 "WovenRows$Pad" "signs" "[I", .static yX10_put, .code yX10_put cX10_put 3 none] ++ wsX100 ++ wsX40)
def wsX10_wipe : List Cond := .code yX10_wipe cX10_wipe 1 (some .int) :: ([.fieldLink RX10 32 "WovenRows" "pad" "LWovenRows$Pad;", .methodLink RX10 114 yX4_empty, .instanceMethod yX4_empty, .selects RX4 yX4_empty yX4_empty, .initialized RX4, .code yX4_empty cX4_empty 2 (some .int), .fieldLink RX4 15 "WovenRows$Pad" "count" "I"] ++ wsX100 ++ wsX40)
def wsX10_fault : List Cond := .code yX10_fault cX10_fault 1 (some .int) :: ([.fieldLink RX10 32 "WovenRows" "pad" "LWovenRows$Pad;", .methodLink RX10 118 yX4_firstFault, .instanceMethod yX4_firstFault, .selects RX4 yX4_firstFault yX4_firstFault, .initialized RX4, .code yX4_firstFault cX4_firstFault 3 (some .int), .fieldLink RX4 15 "WovenRows$Pad" "count" "I", .fieldLink RX4 9 "WovenRows$Pad" "signs" "[I", .static yX10_at, .initialized RX10, .code yX10_at cX10_at 2 (some .int), .methodLink RX4 27 yX4_wantsAfter, .static yX4_wantsAfter, .code yX4_wantsAfter cX4_wantsAfter 2 (some .int), .methodLink RX4 33 yX4_isLetter, .static yX4_isLetter, .code yX4_isLetter cX4_isLetter 1 (some .boolean), .methodLink RX4 37 yX4_endsAsVerb, .static yX4_endsAsVerb, .code yX4_endsAsVerb cX4_endsAsVerb 1 (some .boolean)] ++ wsX100 ++ wsX40)
def wsX10_judge_r1 : List Cond := [Cond.fieldLink RX10 32 "WovenRows" "pad" "LWovenRows$Pad;", Cond.fieldLink RX10 39 "WovenRows" "rehearsal" "LWovenRows$Rehearsal;", Cond.fieldLink RX10 10 "WovenRows" "town" "LWovenRows$Town;", Cond.fieldLink RX10 16 "WovenRows" "trial" "LWovenRows$Town;", Cond.methodLink RX10 78 yX10_within, Cond.static yX10_within, Cond.initialized RX10, Cond.code yX10_within cX10_within 3 (some .boolean), Cond.methodLink RX10 118 yX4_firstFault, Cond.instanceMethod yX4_firstFault, Cond.selects RX4 yX4_firstFault yX4_firstFault, Cond.initialized RX4, Cond.code yX4_firstFault cX4_firstFault 3 (some .int), Cond.fieldLink RX4 15 "WovenRows$Pad" "count" "I", Cond.fieldLink RX4 9 "WovenRows$Pad" "signs" "[I", Cond.static yX10_at, Cond.code yX10_at cX10_at 2 (some .int), Cond.methodLink RX4 27 yX4_wantsAfter, Cond.static yX4_wantsAfter, Cond.code yX4_wantsAfter cX4_wantsAfter 2 (some .int), Cond.methodLink RX4 33 yX4_isLetter, Cond.static yX4_isLetter, Cond.code yX4_isLetter cX4_isLetter 1 (some .boolean), Cond.methodLink RX4 37 yX4_endsAsVerb]
def wsX10_judge_r2 : List Cond := [Cond.static yX4_endsAsVerb, Cond.code yX4_endsAsVerb cX4_endsAsVerb 1 (some .boolean), Cond.methodLink RX10 121 yX6_play, Cond.instanceMethod yX6_play, Cond.selects RX6 yX6_play yX6_play, Cond.initialized RX6, Cond.code yX6_play cX6_play 7 none, Cond.fieldLink RX6 7 "WovenRows$Rehearsal" "acts" "I", Cond.fieldLink RX6 13 "WovenRows$Rehearsal" "why" "I", Cond.methodLink RX6 16 yX8_takeFrom, Cond.instanceMethod yX8_takeFrom, Cond.selects RX8 yX8_takeFrom yX8_takeFrom, Cond.initialized RX8, Cond.code yX8_takeFrom cX8_takeFrom 2 none, Cond.fieldLink RX8 9 "WovenRows$Town" "widths" "[I", Cond.fieldLink RX8 15 "WovenRows$Town" "keys" "[I", Cond.fieldLink RX8 18 "WovenRows$Town" "cells" "[I", Cond.fieldLink RX8 21 "WovenRows$Town" "delays" "[I", Cond.fieldLink RX8 27 "WovenRows$Town" "rows" "LWovenRows$Rows;", Cond.fieldLink RX8 36 "WovenRows$Town" "rules" "LWovenRows$Pairs;", Cond.fieldLink RX8 40 "WovenRows$Town" "sights" "LWovenRows$Pairs;", Cond.static yX10_copy, Cond.code yX10_copy cX10_copy 3 none, Cond.methodLink RX8 51 yX7_takeFrom]
def wsX10_judge_r3 : List Cond := [Cond.instanceMethod yX7_takeFrom, Cond.selects RX7 yX7_takeFrom yX7_takeFrom, Cond.initialized RX7, Cond.code yX7_takeFrom cX7_takeFrom 2 none, Cond.fieldLink RX7 9 "WovenRows$Rows" "rowOf" "[I", Cond.fieldLink RX7 15 "WovenRows$Rows" "placeOf" "[I", Cond.fieldLink RX7 18 "WovenRows$Rows" "rung" "I", Cond.methodLink RX8 55 yX5_takeFrom, Cond.instanceMethod yX5_takeFrom, Cond.selects RX5 yX5_takeFrom yX5_takeFrom, Cond.initialized RX5, Cond.code yX5_takeFrom cX5_takeFrom 2 none, Cond.fieldLink RX5 19 "WovenRows$Pairs" "firsts" "[I", Cond.fieldLink RX5 23 "WovenRows$Pairs" "seconds" "[I", Cond.fieldLink RX5 7 "WovenRows$Pairs" "count" "I", Cond.methodLink RX6 27 yX4_kindEndingAt, Cond.instanceMethod yX4_kindEndingAt, Cond.selects RX4 yX4_kindEndingAt yX4_kindEndingAt, Cond.code yX4_kindEndingAt cX4_kindEndingAt 3 (some .int), Cond.methodLink RX6 37 yX4_memberAt, Cond.instanceMethod yX4_memberAt, Cond.selects RX4 yX4_memberAt yX4_memberAt, Cond.code yX4_memberAt cX4_memberAt 2 (some .int), Cond.methodLink RX6 40 yX7_attempt]
def wsX10_judge_r4 : List Cond := [Cond.instanceMethod yX7_attempt, Cond.selects RX7 yX7_attempt yX7_attempt, Cond.code yX7_attempt cX7_attempt 5 (some .int), Cond.methodLink RX7 34 yX7_reasonAgainst, Cond.instanceMethod yX7_reasonAgainst, Cond.selects RX7 yX7_reasonAgainst yX7_reasonAgainst, Cond.code yX7_reasonAgainst cX7_reasonAgainst 4 (some .int), Cond.methodLink RX7 42 yX7_reasonAgainstJoining, Cond.instanceMethod yX7_reasonAgainstJoining, Cond.selects RX7 yX7_reasonAgainstJoining yX7_reasonAgainstJoining, Cond.code yX7_reasonAgainstJoining cX7_reasonAgainstJoining 3 (some .int), Cond.methodLink RX7 46 yX7_lengthOf, Cond.instanceMethod yX7_lengthOf, Cond.selects RX7 yX7_lengthOf yX7_lengthOf, Cond.code yX7_lengthOf cX7_lengthOf 4 (some .int), Cond.methodLink RX7 38 yX7_carryOut, Cond.instanceMethod yX7_carryOut, Cond.selects RX7 yX7_carryOut yX7_carryOut, Cond.code yX7_carryOut cX7_carryOut 4 none, Cond.methodLink RX7 50 yX7_join, Cond.instanceMethod yX7_join, Cond.selects RX7 yX7_join yX7_join, Cond.code yX7_join cX7_join 3 none, Cond.static yX10_put]
def wsX10_judge_r5 : List Cond := [Cond.code yX10_put cX10_put 3 none, Cond.methodLink RX7 54 yX7_leave, Cond.instanceMethod yX7_leave, Cond.selects RX7 yX7_leave yX7_leave, Cond.code yX7_leave cX7_leave 6 none, Cond.methodLink RX7 58 yX7_swap, Cond.static yX7_swap, Cond.code yX7_swap cX7_swap 4 none]
def wsX10_judge : List Cond := .code yX10_judge cX10_judge 2 (some .int) :: ((wsX10_judge_r1 ++ (wsX10_judge_r2 ++ (wsX10_judge_r3 ++ (wsX10_judge_r4 ++ wsX10_judge_r5)))) ++ wsX100 ++ wsX60 ++ wsX40 ++ wsX80 ++ wsX70 ++ wsX50)
def wsX10_daysCanBe_r1 : List Cond := [Cond.fieldLink RX10 32 "WovenRows" "pad" "LWovenRows$Pad;", Cond.fieldLink RX10 39 "WovenRows" "rehearsal" "LWovenRows$Rehearsal;", Cond.fieldLink RX10 10 "WovenRows" "town" "LWovenRows$Town;", Cond.fieldLink RX10 16 "WovenRows" "trial" "LWovenRows$Town;", Cond.methodLink RX10 118 yX4_firstFault, Cond.instanceMethod yX4_firstFault, Cond.selects RX4 yX4_firstFault yX4_firstFault, Cond.initialized RX4, Cond.code yX4_firstFault cX4_firstFault 3 (some .int), Cond.fieldLink RX4 15 "WovenRows$Pad" "count" "I", Cond.fieldLink RX4 9 "WovenRows$Pad" "signs" "[I", Cond.static yX10_at, Cond.initialized RX10, Cond.code yX10_at cX10_at 2 (some .int), Cond.methodLink RX4 27 yX4_wantsAfter, Cond.static yX4_wantsAfter, Cond.code yX4_wantsAfter cX4_wantsAfter 2 (some .int), Cond.methodLink RX4 33 yX4_isLetter, Cond.static yX4_isLetter, Cond.code yX4_isLetter cX4_isLetter 1 (some .boolean), Cond.methodLink RX4 37 yX4_endsAsVerb, Cond.static yX4_endsAsVerb, Cond.code yX4_endsAsVerb cX4_endsAsVerb 1 (some .boolean), Cond.methodLink RX10 121 yX6_play]
def wsX10_daysCanBe_r2 : List Cond := [Cond.instanceMethod yX6_play, Cond.selects RX6 yX6_play yX6_play, Cond.initialized RX6, Cond.code yX6_play cX6_play 7 none, Cond.fieldLink RX6 7 "WovenRows$Rehearsal" "acts" "I", Cond.fieldLink RX6 13 "WovenRows$Rehearsal" "why" "I", Cond.methodLink RX6 16 yX8_takeFrom, Cond.instanceMethod yX8_takeFrom, Cond.selects RX8 yX8_takeFrom yX8_takeFrom, Cond.initialized RX8, Cond.code yX8_takeFrom cX8_takeFrom 2 none, Cond.fieldLink RX8 9 "WovenRows$Town" "widths" "[I", Cond.fieldLink RX8 15 "WovenRows$Town" "keys" "[I", Cond.fieldLink RX8 18 "WovenRows$Town" "cells" "[I", Cond.fieldLink RX8 21 "WovenRows$Town" "delays" "[I", Cond.fieldLink RX8 27 "WovenRows$Town" "rows" "LWovenRows$Rows;", Cond.fieldLink RX8 36 "WovenRows$Town" "rules" "LWovenRows$Pairs;", Cond.fieldLink RX8 40 "WovenRows$Town" "sights" "LWovenRows$Pairs;", Cond.static yX10_copy, Cond.code yX10_copy cX10_copy 3 none, Cond.methodLink RX8 51 yX7_takeFrom, Cond.instanceMethod yX7_takeFrom, Cond.selects RX7 yX7_takeFrom yX7_takeFrom, Cond.initialized RX7]
def wsX10_daysCanBe_r3 : List Cond := [Cond.code yX7_takeFrom cX7_takeFrom 2 none, Cond.fieldLink RX7 9 "WovenRows$Rows" "rowOf" "[I", Cond.fieldLink RX7 15 "WovenRows$Rows" "placeOf" "[I", Cond.fieldLink RX7 18 "WovenRows$Rows" "rung" "I", Cond.methodLink RX8 55 yX5_takeFrom, Cond.instanceMethod yX5_takeFrom, Cond.selects RX5 yX5_takeFrom yX5_takeFrom, Cond.initialized RX5, Cond.code yX5_takeFrom cX5_takeFrom 2 none, Cond.fieldLink RX5 19 "WovenRows$Pairs" "firsts" "[I", Cond.fieldLink RX5 23 "WovenRows$Pairs" "seconds" "[I", Cond.fieldLink RX5 7 "WovenRows$Pairs" "count" "I", Cond.methodLink RX6 27 yX4_kindEndingAt, Cond.instanceMethod yX4_kindEndingAt, Cond.selects RX4 yX4_kindEndingAt yX4_kindEndingAt, Cond.code yX4_kindEndingAt cX4_kindEndingAt 3 (some .int), Cond.methodLink RX6 37 yX4_memberAt, Cond.instanceMethod yX4_memberAt, Cond.selects RX4 yX4_memberAt yX4_memberAt, Cond.code yX4_memberAt cX4_memberAt 2 (some .int), Cond.methodLink RX6 40 yX7_attempt, Cond.instanceMethod yX7_attempt, Cond.selects RX7 yX7_attempt yX7_attempt, Cond.code yX7_attempt cX7_attempt 5 (some .int)]
def wsX10_daysCanBe_r4 : List Cond := [Cond.methodLink RX7 34 yX7_reasonAgainst, Cond.instanceMethod yX7_reasonAgainst, Cond.selects RX7 yX7_reasonAgainst yX7_reasonAgainst, Cond.code yX7_reasonAgainst cX7_reasonAgainst 4 (some .int), Cond.methodLink RX7 42 yX7_reasonAgainstJoining, Cond.instanceMethod yX7_reasonAgainstJoining, Cond.selects RX7 yX7_reasonAgainstJoining yX7_reasonAgainstJoining, Cond.code yX7_reasonAgainstJoining cX7_reasonAgainstJoining 3 (some .int), Cond.methodLink RX7 46 yX7_lengthOf, Cond.instanceMethod yX7_lengthOf, Cond.selects RX7 yX7_lengthOf yX7_lengthOf, Cond.code yX7_lengthOf cX7_lengthOf 4 (some .int), Cond.methodLink RX7 38 yX7_carryOut, Cond.instanceMethod yX7_carryOut, Cond.selects RX7 yX7_carryOut yX7_carryOut, Cond.code yX7_carryOut cX7_carryOut 4 none, Cond.methodLink RX7 50 yX7_join, Cond.instanceMethod yX7_join, Cond.selects RX7 yX7_join yX7_join, Cond.code yX7_join cX7_join 3 none, Cond.static yX10_put, Cond.code yX10_put cX10_put 3 none, Cond.methodLink RX7 54 yX7_leave, Cond.instanceMethod yX7_leave]
def wsX10_daysCanBe_r5 : List Cond := [Cond.selects RX7 yX7_leave yX7_leave, Cond.code yX7_leave cX7_leave 6 none, Cond.methodLink RX7 58 yX7_swap, Cond.static yX7_swap, Cond.code yX7_swap cX7_swap 4 none]
def wsX10_daysCanBe : List Cond := .code yX10_daysCanBe cX10_daysCanBe 1 (some .boolean) :: ((wsX10_daysCanBe_r1 ++ (wsX10_daysCanBe_r2 ++ (wsX10_daysCanBe_r3 ++ (wsX10_daysCanBe_r4 ++ wsX10_daysCanBe_r5)))) ++ wsX100 ++ wsX60 ++ wsX40 ++ wsX80 ++ wsX70 ++ wsX50)
def wsX10_done_r1 : List Cond := [Cond.fieldLink RX10 10 "WovenRows" "town" "LWovenRows$Town;", Cond.fieldLink RX10 16 "WovenRows" "trial" "LWovenRows$Town;", Cond.fieldLink RX10 32 "WovenRows" "pad" "LWovenRows$Pad;", Cond.fieldLink RX10 39 "WovenRows" "rehearsal" "LWovenRows$Rehearsal;", Cond.methodLink RX10 131 yX10_daysCanBe, Cond.instanceMethod yX10_daysCanBe, Cond.selects RX10 yX10_daysCanBe yX10_daysCanBe, Cond.initialized RX10, Cond.code yX10_daysCanBe cX10_daysCanBe 1 (some .boolean), Cond.methodLink RX10 118 yX4_firstFault, Cond.instanceMethod yX4_firstFault, Cond.selects RX4 yX4_firstFault yX4_firstFault, Cond.initialized RX4, Cond.code yX4_firstFault cX4_firstFault 3 (some .int), Cond.fieldLink RX4 15 "WovenRows$Pad" "count" "I", Cond.fieldLink RX4 9 "WovenRows$Pad" "signs" "[I", Cond.static yX10_at, Cond.code yX10_at cX10_at 2 (some .int), Cond.methodLink RX4 27 yX4_wantsAfter, Cond.static yX4_wantsAfter, Cond.code yX4_wantsAfter cX4_wantsAfter 2 (some .int), Cond.methodLink RX4 33 yX4_isLetter, Cond.static yX4_isLetter, Cond.code yX4_isLetter cX4_isLetter 1 (some .boolean)]
def wsX10_done_r2 : List Cond := [Cond.methodLink RX4 37 yX4_endsAsVerb, Cond.static yX4_endsAsVerb, Cond.code yX4_endsAsVerb cX4_endsAsVerb 1 (some .boolean), Cond.methodLink RX10 121 yX6_play, Cond.instanceMethod yX6_play, Cond.selects RX6 yX6_play yX6_play, Cond.initialized RX6, Cond.code yX6_play cX6_play 7 none, Cond.fieldLink RX6 7 "WovenRows$Rehearsal" "acts" "I", Cond.fieldLink RX6 13 "WovenRows$Rehearsal" "why" "I", Cond.methodLink RX6 16 yX8_takeFrom, Cond.instanceMethod yX8_takeFrom, Cond.selects RX8 yX8_takeFrom yX8_takeFrom, Cond.initialized RX8, Cond.code yX8_takeFrom cX8_takeFrom 2 none, Cond.fieldLink RX8 9 "WovenRows$Town" "widths" "[I", Cond.fieldLink RX8 15 "WovenRows$Town" "keys" "[I", Cond.fieldLink RX8 18 "WovenRows$Town" "cells" "[I", Cond.fieldLink RX8 21 "WovenRows$Town" "delays" "[I", Cond.fieldLink RX8 27 "WovenRows$Town" "rows" "LWovenRows$Rows;", Cond.fieldLink RX8 36 "WovenRows$Town" "rules" "LWovenRows$Pairs;", Cond.fieldLink RX8 40 "WovenRows$Town" "sights" "LWovenRows$Pairs;", Cond.static yX10_copy, Cond.code yX10_copy cX10_copy 3 none]
def wsX10_done_r3 : List Cond := [Cond.methodLink RX8 51 yX7_takeFrom, Cond.instanceMethod yX7_takeFrom, Cond.selects RX7 yX7_takeFrom yX7_takeFrom, Cond.initialized RX7, Cond.code yX7_takeFrom cX7_takeFrom 2 none, Cond.fieldLink RX7 9 "WovenRows$Rows" "rowOf" "[I", Cond.fieldLink RX7 15 "WovenRows$Rows" "placeOf" "[I", Cond.fieldLink RX7 18 "WovenRows$Rows" "rung" "I", Cond.methodLink RX8 55 yX5_takeFrom, Cond.instanceMethod yX5_takeFrom, Cond.selects RX5 yX5_takeFrom yX5_takeFrom, Cond.initialized RX5, Cond.code yX5_takeFrom cX5_takeFrom 2 none, Cond.fieldLink RX5 19 "WovenRows$Pairs" "firsts" "[I", Cond.fieldLink RX5 23 "WovenRows$Pairs" "seconds" "[I", Cond.fieldLink RX5 7 "WovenRows$Pairs" "count" "I", Cond.methodLink RX6 27 yX4_kindEndingAt, Cond.instanceMethod yX4_kindEndingAt, Cond.selects RX4 yX4_kindEndingAt yX4_kindEndingAt, Cond.code yX4_kindEndingAt cX4_kindEndingAt 3 (some .int), Cond.methodLink RX6 37 yX4_memberAt, Cond.instanceMethod yX4_memberAt, Cond.selects RX4 yX4_memberAt yX4_memberAt, Cond.code yX4_memberAt cX4_memberAt 2 (some .int)]
def wsX10_done_r4 : List Cond := [Cond.methodLink RX6 40 yX7_attempt, Cond.instanceMethod yX7_attempt, Cond.selects RX7 yX7_attempt yX7_attempt, Cond.code yX7_attempt cX7_attempt 5 (some .int), Cond.methodLink RX7 34 yX7_reasonAgainst, Cond.instanceMethod yX7_reasonAgainst, Cond.selects RX7 yX7_reasonAgainst yX7_reasonAgainst, Cond.code yX7_reasonAgainst cX7_reasonAgainst 4 (some .int), Cond.methodLink RX7 42 yX7_reasonAgainstJoining, Cond.instanceMethod yX7_reasonAgainstJoining, Cond.selects RX7 yX7_reasonAgainstJoining yX7_reasonAgainstJoining, Cond.code yX7_reasonAgainstJoining cX7_reasonAgainstJoining 3 (some .int), Cond.methodLink RX7 46 yX7_lengthOf, Cond.instanceMethod yX7_lengthOf, Cond.selects RX7 yX7_lengthOf yX7_lengthOf, Cond.code yX7_lengthOf cX7_lengthOf 4 (some .int), Cond.methodLink RX7 38 yX7_carryOut, Cond.instanceMethod yX7_carryOut, Cond.selects RX7 yX7_carryOut yX7_carryOut, Cond.code yX7_carryOut cX7_carryOut 4 none, Cond.methodLink RX7 50 yX7_join, Cond.instanceMethod yX7_join, Cond.selects RX7 yX7_join yX7_join, Cond.code yX7_join cX7_join 3 none]
def wsX10_done_r5 : List Cond := [Cond.static yX10_put, Cond.code yX10_put cX10_put 3 none, Cond.methodLink RX7 54 yX7_leave, Cond.instanceMethod yX7_leave, Cond.selects RX7 yX7_leave yX7_leave, Cond.code yX7_leave cX7_leave 6 none, Cond.methodLink RX7 58 yX7_swap, Cond.static yX7_swap, Cond.code yX7_swap cX7_swap 4 none, Cond.methodLink RX10 139 yX7_takeFrom, Cond.methodLink RX10 114 yX4_empty, Cond.instanceMethod yX4_empty, Cond.selects RX4 yX4_empty yX4_empty, Cond.code yX4_empty cX4_empty 2 (some .int)]
def wsX10_done : List Cond := .code yX10_done cX10_done 1 (some .int) :: ((wsX10_done_r1 ++ (wsX10_done_r2 ++ (wsX10_done_r3 ++ (wsX10_done_r4 ++ wsX10_done_r5)))) ++ wsX100 ++ wsX80 ++ wsX60 ++ wsX40 ++ wsX70 ++ wsX50)
def wsX10_place_r1 : List Cond := [Cond.fieldLink RX10 16 "WovenRows" "trial" "LWovenRows$Town;", Cond.methodLink RX10 100 yX10_isRow, Cond.static yX10_isRow, Cond.initialized RX10, Cond.code yX10_isRow cX10_isRow 1 (some .boolean), Cond.methodLink RX10 78 yX10_within, Cond.static yX10_within, Cond.code yX10_within cX10_within 3 (some .boolean), Cond.methodLink RX10 131 yX10_daysCanBe, Cond.instanceMethod yX10_daysCanBe, Cond.selects RX10 yX10_daysCanBe yX10_daysCanBe, Cond.code yX10_daysCanBe cX10_daysCanBe 1 (some .boolean), Cond.fieldLink RX10 32 "WovenRows" "pad" "LWovenRows$Pad;", Cond.fieldLink RX10 39 "WovenRows" "rehearsal" "LWovenRows$Rehearsal;", Cond.fieldLink RX10 10 "WovenRows" "town" "LWovenRows$Town;", Cond.methodLink RX10 118 yX4_firstFault, Cond.instanceMethod yX4_firstFault, Cond.selects RX4 yX4_firstFault yX4_firstFault, Cond.initialized RX4, Cond.code yX4_firstFault cX4_firstFault 3 (some .int), Cond.fieldLink RX4 15 "WovenRows$Pad" "count" "I", Cond.fieldLink RX4 9 "WovenRows$Pad" "signs" "[I", Cond.static yX10_at, Cond.code yX10_at cX10_at 2 (some .int)]
def wsX10_place_r2 : List Cond := [Cond.methodLink RX4 27 yX4_wantsAfter, Cond.static yX4_wantsAfter, Cond.code yX4_wantsAfter cX4_wantsAfter 2 (some .int), Cond.methodLink RX4 33 yX4_isLetter, Cond.static yX4_isLetter, Cond.code yX4_isLetter cX4_isLetter 1 (some .boolean), Cond.methodLink RX4 37 yX4_endsAsVerb, Cond.static yX4_endsAsVerb, Cond.code yX4_endsAsVerb cX4_endsAsVerb 1 (some .boolean), Cond.methodLink RX10 121 yX6_play, Cond.instanceMethod yX6_play, Cond.selects RX6 yX6_play yX6_play, Cond.initialized RX6, Cond.code yX6_play cX6_play 7 none, Cond.fieldLink RX6 7 "WovenRows$Rehearsal" "acts" "I", Cond.fieldLink RX6 13 "WovenRows$Rehearsal" "why" "I", Cond.methodLink RX6 16 yX8_takeFrom, Cond.instanceMethod yX8_takeFrom, Cond.selects RX8 yX8_takeFrom yX8_takeFrom, Cond.initialized RX8, Cond.code yX8_takeFrom cX8_takeFrom 2 none, Cond.fieldLink RX8 9 "WovenRows$Town" "widths" "[I", Cond.fieldLink RX8 15 "WovenRows$Town" "keys" "[I", Cond.fieldLink RX8 18 "WovenRows$Town" "cells" "[I"]
def wsX10_place_r3 : List Cond := [Cond.fieldLink RX8 21 "WovenRows$Town" "delays" "[I", Cond.fieldLink RX8 27 "WovenRows$Town" "rows" "LWovenRows$Rows;", Cond.fieldLink RX8 36 "WovenRows$Town" "rules" "LWovenRows$Pairs;", Cond.fieldLink RX8 40 "WovenRows$Town" "sights" "LWovenRows$Pairs;", Cond.static yX10_copy, Cond.code yX10_copy cX10_copy 3 none, Cond.methodLink RX8 51 yX7_takeFrom, Cond.instanceMethod yX7_takeFrom, Cond.selects RX7 yX7_takeFrom yX7_takeFrom, Cond.initialized RX7, Cond.code yX7_takeFrom cX7_takeFrom 2 none, Cond.fieldLink RX7 9 "WovenRows$Rows" "rowOf" "[I", Cond.fieldLink RX7 15 "WovenRows$Rows" "placeOf" "[I", Cond.fieldLink RX7 18 "WovenRows$Rows" "rung" "I", Cond.methodLink RX8 55 yX5_takeFrom, Cond.instanceMethod yX5_takeFrom, Cond.selects RX5 yX5_takeFrom yX5_takeFrom, Cond.initialized RX5, Cond.code yX5_takeFrom cX5_takeFrom 2 none, Cond.fieldLink RX5 19 "WovenRows$Pairs" "firsts" "[I", Cond.fieldLink RX5 23 "WovenRows$Pairs" "seconds" "[I", Cond.fieldLink RX5 7 "WovenRows$Pairs" "count" "I", Cond.methodLink RX6 27 yX4_kindEndingAt, Cond.instanceMethod yX4_kindEndingAt]
def wsX10_place_r4 : List Cond := [Cond.selects RX4 yX4_kindEndingAt yX4_kindEndingAt, Cond.code yX4_kindEndingAt cX4_kindEndingAt 3 (some .int), Cond.methodLink RX6 37 yX4_memberAt, Cond.instanceMethod yX4_memberAt, Cond.selects RX4 yX4_memberAt yX4_memberAt, Cond.code yX4_memberAt cX4_memberAt 2 (some .int), Cond.methodLink RX6 40 yX7_attempt, Cond.instanceMethod yX7_attempt, Cond.selects RX7 yX7_attempt yX7_attempt, Cond.code yX7_attempt cX7_attempt 5 (some .int), Cond.methodLink RX7 34 yX7_reasonAgainst, Cond.instanceMethod yX7_reasonAgainst, Cond.selects RX7 yX7_reasonAgainst yX7_reasonAgainst, Cond.code yX7_reasonAgainst cX7_reasonAgainst 4 (some .int), Cond.methodLink RX7 42 yX7_reasonAgainstJoining, Cond.instanceMethod yX7_reasonAgainstJoining, Cond.selects RX7 yX7_reasonAgainstJoining yX7_reasonAgainstJoining, Cond.code yX7_reasonAgainstJoining cX7_reasonAgainstJoining 3 (some .int), Cond.methodLink RX7 46 yX7_lengthOf, Cond.instanceMethod yX7_lengthOf, Cond.selects RX7 yX7_lengthOf yX7_lengthOf, Cond.code yX7_lengthOf cX7_lengthOf 4 (some .int), Cond.methodLink RX7 38 yX7_carryOut, Cond.instanceMethod yX7_carryOut]
def wsX10_place_r5 : List Cond := [Cond.selects RX7 yX7_carryOut yX7_carryOut, Cond.code yX7_carryOut cX7_carryOut 4 none, Cond.methodLink RX7 50 yX7_join, Cond.instanceMethod yX7_join, Cond.selects RX7 yX7_join yX7_join, Cond.code yX7_join cX7_join 3 none, Cond.static yX10_put, Cond.code yX10_put cX10_put 3 none, Cond.methodLink RX7 54 yX7_leave, Cond.instanceMethod yX7_leave, Cond.selects RX7 yX7_leave yX7_leave, Cond.code yX7_leave cX7_leave 6 none, Cond.methodLink RX7 58 yX7_swap, Cond.static yX7_swap, Cond.code yX7_swap cX7_swap 4 none, Cond.methodLink RX10 145 yX7_whoIsAt, Cond.instanceMethod yX7_whoIsAt, Cond.selects RX7 yX7_whoIsAt yX7_whoIsAt, Cond.code yX7_whoIsAt cX7_whoIsAt 4 (some .int)]
def wsX10_place : List Cond := .code yX10_place cX10_place 3 (some .int) :: ((wsX10_place_r1 ++ (wsX10_place_r2 ++ (wsX10_place_r3 ++ (wsX10_place_r4 ++ wsX10_place_r5)))) ++ wsX100 ++ wsX80 ++ wsX60 ++ wsX40 ++ wsX70 ++ wsX50)
def wsX10_of_r1 : List Cond := [Cond.fieldLink RX10 16 "WovenRows" "trial" "LWovenRows$Town;", Cond.methodLink RX10 78 yX10_within, Cond.static yX10_within, Cond.initialized RX10, Cond.code yX10_within cX10_within 3 (some .boolean), Cond.methodLink RX10 131 yX10_daysCanBe, Cond.instanceMethod yX10_daysCanBe, Cond.selects RX10 yX10_daysCanBe yX10_daysCanBe, Cond.code yX10_daysCanBe cX10_daysCanBe 1 (some .boolean), Cond.fieldLink RX10 32 "WovenRows" "pad" "LWovenRows$Pad;", Cond.fieldLink RX10 39 "WovenRows" "rehearsal" "LWovenRows$Rehearsal;", Cond.fieldLink RX10 10 "WovenRows" "town" "LWovenRows$Town;", Cond.methodLink RX10 118 yX4_firstFault, Cond.instanceMethod yX4_firstFault, Cond.selects RX4 yX4_firstFault yX4_firstFault, Cond.initialized RX4, Cond.code yX4_firstFault cX4_firstFault 3 (some .int), Cond.fieldLink RX4 15 "WovenRows$Pad" "count" "I", Cond.fieldLink RX4 9 "WovenRows$Pad" "signs" "[I", Cond.static yX10_at, Cond.code yX10_at cX10_at 2 (some .int), Cond.methodLink RX4 27 yX4_wantsAfter, Cond.static yX4_wantsAfter, Cond.code yX4_wantsAfter cX4_wantsAfter 2 (some .int)]
def wsX10_of_r2 : List Cond := [Cond.methodLink RX4 33 yX4_isLetter, Cond.static yX4_isLetter, Cond.code yX4_isLetter cX4_isLetter 1 (some .boolean), Cond.methodLink RX4 37 yX4_endsAsVerb, Cond.static yX4_endsAsVerb, Cond.code yX4_endsAsVerb cX4_endsAsVerb 1 (some .boolean), Cond.methodLink RX10 121 yX6_play, Cond.instanceMethod yX6_play, Cond.selects RX6 yX6_play yX6_play, Cond.initialized RX6, Cond.code yX6_play cX6_play 7 none, Cond.fieldLink RX6 7 "WovenRows$Rehearsal" "acts" "I", Cond.fieldLink RX6 13 "WovenRows$Rehearsal" "why" "I", Cond.methodLink RX6 16 yX8_takeFrom, Cond.instanceMethod yX8_takeFrom, Cond.selects RX8 yX8_takeFrom yX8_takeFrom, Cond.initialized RX8, Cond.code yX8_takeFrom cX8_takeFrom 2 none, Cond.fieldLink RX8 9 "WovenRows$Town" "widths" "[I", Cond.fieldLink RX8 15 "WovenRows$Town" "keys" "[I", Cond.fieldLink RX8 18 "WovenRows$Town" "cells" "[I", Cond.fieldLink RX8 21 "WovenRows$Town" "delays" "[I", Cond.fieldLink RX8 27 "WovenRows$Town" "rows" "LWovenRows$Rows;", Cond.fieldLink RX8 36 "WovenRows$Town" "rules" "LWovenRows$Pairs;"]
def wsX10_of_r3 : List Cond := [Cond.fieldLink RX8 40 "WovenRows$Town" "sights" "LWovenRows$Pairs;", Cond.static yX10_copy, Cond.code yX10_copy cX10_copy 3 none, Cond.methodLink RX8 51 yX7_takeFrom, Cond.instanceMethod yX7_takeFrom, Cond.selects RX7 yX7_takeFrom yX7_takeFrom, Cond.initialized RX7, Cond.code yX7_takeFrom cX7_takeFrom 2 none, Cond.fieldLink RX7 9 "WovenRows$Rows" "rowOf" "[I", Cond.fieldLink RX7 15 "WovenRows$Rows" "placeOf" "[I", Cond.fieldLink RX7 18 "WovenRows$Rows" "rung" "I", Cond.methodLink RX8 55 yX5_takeFrom, Cond.instanceMethod yX5_takeFrom, Cond.selects RX5 yX5_takeFrom yX5_takeFrom, Cond.initialized RX5, Cond.code yX5_takeFrom cX5_takeFrom 2 none, Cond.fieldLink RX5 19 "WovenRows$Pairs" "firsts" "[I", Cond.fieldLink RX5 23 "WovenRows$Pairs" "seconds" "[I", Cond.fieldLink RX5 7 "WovenRows$Pairs" "count" "I", Cond.methodLink RX6 27 yX4_kindEndingAt, Cond.instanceMethod yX4_kindEndingAt, Cond.selects RX4 yX4_kindEndingAt yX4_kindEndingAt, Cond.code yX4_kindEndingAt cX4_kindEndingAt 3 (some .int), Cond.methodLink RX6 37 yX4_memberAt]
def wsX10_of_r4 : List Cond := [Cond.instanceMethod yX4_memberAt, Cond.selects RX4 yX4_memberAt yX4_memberAt, Cond.code yX4_memberAt cX4_memberAt 2 (some .int), Cond.methodLink RX6 40 yX7_attempt, Cond.instanceMethod yX7_attempt, Cond.selects RX7 yX7_attempt yX7_attempt, Cond.code yX7_attempt cX7_attempt 5 (some .int), Cond.methodLink RX7 34 yX7_reasonAgainst, Cond.instanceMethod yX7_reasonAgainst, Cond.selects RX7 yX7_reasonAgainst yX7_reasonAgainst, Cond.code yX7_reasonAgainst cX7_reasonAgainst 4 (some .int), Cond.methodLink RX7 42 yX7_reasonAgainstJoining, Cond.instanceMethod yX7_reasonAgainstJoining, Cond.selects RX7 yX7_reasonAgainstJoining yX7_reasonAgainstJoining, Cond.code yX7_reasonAgainstJoining cX7_reasonAgainstJoining 3 (some .int), Cond.methodLink RX7 46 yX7_lengthOf, Cond.instanceMethod yX7_lengthOf, Cond.selects RX7 yX7_lengthOf yX7_lengthOf, Cond.code yX7_lengthOf cX7_lengthOf 4 (some .int), Cond.methodLink RX7 38 yX7_carryOut, Cond.instanceMethod yX7_carryOut, Cond.selects RX7 yX7_carryOut yX7_carryOut, Cond.code yX7_carryOut cX7_carryOut 4 none, Cond.methodLink RX7 50 yX7_join]
def wsX10_of_r5 : List Cond := [Cond.instanceMethod yX7_join, Cond.selects RX7 yX7_join yX7_join, Cond.code yX7_join cX7_join 3 none, Cond.static yX10_put, Cond.code yX10_put cX10_put 3 none, Cond.methodLink RX7 54 yX7_leave, Cond.instanceMethod yX7_leave, Cond.selects RX7 yX7_leave yX7_leave, Cond.code yX7_leave cX7_leave 6 none, Cond.methodLink RX7 58 yX7_swap, Cond.static yX7_swap, Cond.code yX7_swap cX7_swap 4 none, Cond.methodLink RX10 86 yX10_at]
def wsX10_of : List Cond := .code yX10_of cX10_of 3 (some .int) :: ((wsX10_of_r1 ++ (wsX10_of_r2 ++ (wsX10_of_r3 ++ (wsX10_of_r4 ++ wsX10_of_r5)))) ++ wsX100 ++ wsX80 ++ wsX70 ++ wsX60 ++ wsX40 ++ wsX50)
def wsX10_bells_r1 : List Cond := [Cond.fieldLink RX10 16 "WovenRows" "trial" "LWovenRows$Town;", Cond.methodLink RX10 131 yX10_daysCanBe, Cond.instanceMethod yX10_daysCanBe, Cond.selects RX10 yX10_daysCanBe yX10_daysCanBe, Cond.initialized RX10, Cond.code yX10_daysCanBe cX10_daysCanBe 1 (some .boolean), Cond.fieldLink RX10 32 "WovenRows" "pad" "LWovenRows$Pad;", Cond.fieldLink RX10 39 "WovenRows" "rehearsal" "LWovenRows$Rehearsal;", Cond.fieldLink RX10 10 "WovenRows" "town" "LWovenRows$Town;", Cond.methodLink RX10 118 yX4_firstFault, Cond.instanceMethod yX4_firstFault, Cond.selects RX4 yX4_firstFault yX4_firstFault, Cond.initialized RX4, Cond.code yX4_firstFault cX4_firstFault 3 (some .int), Cond.fieldLink RX4 15 "WovenRows$Pad" "count" "I", Cond.fieldLink RX4 9 "WovenRows$Pad" "signs" "[I", Cond.static yX10_at, Cond.code yX10_at cX10_at 2 (some .int), Cond.methodLink RX4 27 yX4_wantsAfter, Cond.static yX4_wantsAfter, Cond.code yX4_wantsAfter cX4_wantsAfter 2 (some .int), Cond.methodLink RX4 33 yX4_isLetter, Cond.static yX4_isLetter, Cond.code yX4_isLetter cX4_isLetter 1 (some .boolean)]
def wsX10_bells_r2 : List Cond := [Cond.methodLink RX4 37 yX4_endsAsVerb, Cond.static yX4_endsAsVerb, Cond.code yX4_endsAsVerb cX4_endsAsVerb 1 (some .boolean), Cond.methodLink RX10 121 yX6_play, Cond.instanceMethod yX6_play, Cond.selects RX6 yX6_play yX6_play, Cond.initialized RX6, Cond.code yX6_play cX6_play 7 none, Cond.fieldLink RX6 7 "WovenRows$Rehearsal" "acts" "I", Cond.fieldLink RX6 13 "WovenRows$Rehearsal" "why" "I", Cond.methodLink RX6 16 yX8_takeFrom, Cond.instanceMethod yX8_takeFrom, Cond.selects RX8 yX8_takeFrom yX8_takeFrom, Cond.initialized RX8, Cond.code yX8_takeFrom cX8_takeFrom 2 none, Cond.fieldLink RX8 9 "WovenRows$Town" "widths" "[I", Cond.fieldLink RX8 15 "WovenRows$Town" "keys" "[I", Cond.fieldLink RX8 18 "WovenRows$Town" "cells" "[I", Cond.fieldLink RX8 21 "WovenRows$Town" "delays" "[I", Cond.fieldLink RX8 27 "WovenRows$Town" "rows" "LWovenRows$Rows;", Cond.fieldLink RX8 36 "WovenRows$Town" "rules" "LWovenRows$Pairs;", Cond.fieldLink RX8 40 "WovenRows$Town" "sights" "LWovenRows$Pairs;", Cond.static yX10_copy, Cond.code yX10_copy cX10_copy 3 none]
def wsX10_bells_r3 : List Cond := [Cond.methodLink RX8 51 yX7_takeFrom, Cond.instanceMethod yX7_takeFrom, Cond.selects RX7 yX7_takeFrom yX7_takeFrom, Cond.initialized RX7, Cond.code yX7_takeFrom cX7_takeFrom 2 none, Cond.fieldLink RX7 9 "WovenRows$Rows" "rowOf" "[I", Cond.fieldLink RX7 15 "WovenRows$Rows" "placeOf" "[I", Cond.fieldLink RX7 18 "WovenRows$Rows" "rung" "I", Cond.methodLink RX8 55 yX5_takeFrom, Cond.instanceMethod yX5_takeFrom, Cond.selects RX5 yX5_takeFrom yX5_takeFrom, Cond.initialized RX5, Cond.code yX5_takeFrom cX5_takeFrom 2 none, Cond.fieldLink RX5 19 "WovenRows$Pairs" "firsts" "[I", Cond.fieldLink RX5 23 "WovenRows$Pairs" "seconds" "[I", Cond.fieldLink RX5 7 "WovenRows$Pairs" "count" "I", Cond.methodLink RX6 27 yX4_kindEndingAt, Cond.instanceMethod yX4_kindEndingAt, Cond.selects RX4 yX4_kindEndingAt yX4_kindEndingAt, Cond.code yX4_kindEndingAt cX4_kindEndingAt 3 (some .int), Cond.methodLink RX6 37 yX4_memberAt, Cond.instanceMethod yX4_memberAt, Cond.selects RX4 yX4_memberAt yX4_memberAt, Cond.code yX4_memberAt cX4_memberAt 2 (some .int)]
def wsX10_bells_r4 : List Cond := [Cond.methodLink RX6 40 yX7_attempt, Cond.instanceMethod yX7_attempt, Cond.selects RX7 yX7_attempt yX7_attempt, Cond.code yX7_attempt cX7_attempt 5 (some .int), Cond.methodLink RX7 34 yX7_reasonAgainst, Cond.instanceMethod yX7_reasonAgainst, Cond.selects RX7 yX7_reasonAgainst yX7_reasonAgainst, Cond.code yX7_reasonAgainst cX7_reasonAgainst 4 (some .int), Cond.methodLink RX7 42 yX7_reasonAgainstJoining, Cond.instanceMethod yX7_reasonAgainstJoining, Cond.selects RX7 yX7_reasonAgainstJoining yX7_reasonAgainstJoining, Cond.code yX7_reasonAgainstJoining cX7_reasonAgainstJoining 3 (some .int), Cond.methodLink RX7 46 yX7_lengthOf, Cond.instanceMethod yX7_lengthOf, Cond.selects RX7 yX7_lengthOf yX7_lengthOf, Cond.code yX7_lengthOf cX7_lengthOf 4 (some .int), Cond.methodLink RX7 38 yX7_carryOut, Cond.instanceMethod yX7_carryOut, Cond.selects RX7 yX7_carryOut yX7_carryOut, Cond.code yX7_carryOut cX7_carryOut 4 none, Cond.methodLink RX7 50 yX7_join, Cond.instanceMethod yX7_join, Cond.selects RX7 yX7_join yX7_join, Cond.code yX7_join cX7_join 3 none]
def wsX10_bells_r5 : List Cond := [Cond.static yX10_put, Cond.code yX10_put cX10_put 3 none, Cond.methodLink RX7 54 yX7_leave, Cond.instanceMethod yX7_leave, Cond.selects RX7 yX7_leave yX7_leave, Cond.code yX7_leave cX7_leave 6 none, Cond.methodLink RX7 58 yX7_swap, Cond.static yX7_swap, Cond.code yX7_swap cX7_swap 4 none]
def wsX10_bells : List Cond := .code yX10_bells cX10_bells 1 (some .int) :: ((wsX10_bells_r1 ++ (wsX10_bells_r2 ++ (wsX10_bells_r3 ++ (wsX10_bells_r4 ++ wsX10_bells_r5)))) ++ wsX100 ++ wsX80 ++ wsX70 ++ wsX60 ++ wsX40 ++ wsX50)
def wsX10_meets_r1 : List Cond := [Cond.fieldLink RX10 46 "WovenRows" "meetings" "LWovenRows$Meetings;", Cond.fieldLink RX10 10 "WovenRows" "town" "LWovenRows$Town;", Cond.methodLink RX10 78 yX10_within, Cond.static yX10_within, Cond.initialized RX10, Cond.code yX10_within cX10_within 3 (some .boolean), Cond.methodLink RX10 158 yX1_count, Cond.instanceMethod yX1_count, Cond.selects RX1 yX1_count yX1_count, Cond.initialized RX1, Cond.code yX1_count cX1_count 3 none, Cond.fieldLink RX1 9 "WovenRows$Meetings" "twos" "I", Cond.fieldLink RX1 15 "WovenRows$Meetings" "clashes" "I", Cond.fieldLink RX1 18 "WovenRows$Meetings" "first" "I", Cond.fieldLink RX1 21 "WovenRows$Meetings" "where" "I", Cond.static yX10_at, Cond.code yX10_at cX10_at 2 (some .int), Cond.methodLink RX1 43 yX1_countOf, Cond.instanceMethod yX1_countOf, Cond.selects RX1 yX1_countOf yX1_countOf, Cond.code yX1_countOf cX1_countOf 7 none, Cond.methodLink RX1 47 yX8_startOf, Cond.instanceMethod yX8_startOf, Cond.selects RX8 yX8_startOf yX8_startOf]
def wsX10_meets_r2 : List Cond := [Cond.initialized RX8, Cond.code yX8_startOf cX8_startOf 2 (some .int), Cond.fieldLink RX8 21 "WovenRows$Town" "delays" "[I", Cond.fieldLink RX8 27 "WovenRows$Town" "rows" "LWovenRows$Rows;", Cond.methodLink RX1 51 yX8_spotOf, Cond.static yX8_spotOf, Cond.code yX8_spotOf cX8_spotOf 3 (some .int), Cond.methodLink RX1 55 yX8_clash, Cond.instanceMethod yX8_clash, Cond.selects RX8 yX8_clash yX8_clash, Cond.code yX8_clash cX8_clash 5 (some .boolean), Cond.fieldLink RX8 18 "WovenRows$Town" "cells" "[I", Cond.methodLink RX8 76 Lib.Math.min.name, Cond.static Lib.Math.min.name, Cond.initialized "java/lang/Math", Cond.code Lib.Math.min.name Lib.Math.min.code 2 (some .int), Cond.fieldLink RX8 9 "WovenRows$Town" "widths" "[I", Cond.methodLink RX1 62 yX1_noteClash, Cond.instanceMethod yX1_noteClash, Cond.selects RX1 yX1_noteClash yX1_noteClash, Cond.code yX1_noteClash cX1_noteClash 4 none, Cond.fieldLink RX1 24 "WovenRows$Meetings" "firstTurn" "I"]
def wsX10_meets : List Cond := .code yX10_meets cX10_meets 2 (some .int) :: ((wsX10_meets_r1 ++ wsX10_meets_r2) ++ wsX100 ++ wsX10 ++ wsX80 ++ wsX70)
def wsX10_runs : List Cond := .code yX10_runs cX10_runs 1 (some .int) :: ([.fieldLink RX10 10 "WovenRows" "town" "LWovenRows$Town;", .methodLink RX10 177 Lib.Math.max.name, .static Lib.Math.max.name, .initialized "java/lang/Math", .code Lib.Math.max.name Lib.Math.max.code 2 (some .int), .methodLink RX10 173 yX8_emptyFrom, .instanceMethod yX8_emptyFrom, .selects RX8 yX8_emptyFrom yX8_emptyFrom, .initialized RX8, .code yX8_emptyFrom cX8_emptyFrom 3 (some .int), .fieldLink RX8 27 "WovenRows$Town" "rows" "LWovenRows$Rows;", .fieldLink RX8 21 "WovenRows$Town" "delays" "[I", .methodLink RX8 68 yX7_lengthOf, .instanceMethod yX7_lengthOf, .selects RX7 yX7_lengthOf yX7_lengthOf, .initialized RX7, .code yX7_lengthOf cX7_lengthOf 4 (some .int), .fieldLink RX7 9 "WovenRows$Rows" "rowOf" "[I", .static yX10_at, .initialized RX10, .code yX10_at cX10_at 2 (some .int)] ++ wsX100 ++ wsX80 ++ wsX70)
def wsX10_order_r1 : List Cond := [Cond.fieldLink RX10 53 "WovenRows" "arranging" "LWovenRows$Orders;", Cond.fieldLink RX10 10 "WovenRows" "town" "LWovenRows$Town;", Cond.methodLink RX10 100 yX10_isRow, Cond.static yX10_isRow, Cond.initialized RX10, Cond.code yX10_isRow cX10_isRow 1 (some .boolean), Cond.methodLink RX10 78 yX10_within, Cond.static yX10_within, Cond.code yX10_within cX10_within 3 (some .boolean), Cond.methodLink RX10 182 yX3_gather, Cond.instanceMethod yX3_gather, Cond.selects RX3 yX3_gather yX3_gather, Cond.initialized RX3, Cond.code yX3_gather cX3_gather 4 none, Cond.fieldLink RX3 21 "WovenRows$Orders" "size" "I", Cond.fieldLink RX3 9 "WovenRows$Orders" "crowd" "[I", Cond.static yX10_at, Cond.code yX10_at cX10_at 2 (some .int), Cond.static yX10_put, Cond.code yX10_put cX10_put 3 none, Cond.methodLink RX10 186 yX3_countClashes, Cond.instanceMethod yX3_countClashes, Cond.selects RX3 yX3_countClashes yX3_countClashes, Cond.code yX3_countClashes cX3_countClashes 5 none]
def wsX10_order_r2 : List Cond := [Cond.fieldLink RX3 15 "WovenRows$Orders" "costs" "[I", Cond.fieldLink RX3 18 "WovenRows$Orders" "answers" "[I", Cond.methodLink RX3 42 yX8_clashesIn, Cond.instanceMethod yX8_clashesIn, Cond.selects RX8 yX8_clashesIn yX8_clashesIn, Cond.initialized RX8, Cond.code yX8_clashesIn cX8_clashesIn 8 (some .int), Cond.fieldLink RX8 21 "WovenRows$Town" "delays" "[I", Cond.fieldLink RX8 27 "WovenRows$Town" "rows" "LWovenRows$Rows;", Cond.methodLink RX8 82 yX8_startOf, Cond.instanceMethod yX8_startOf, Cond.selects RX8 yX8_startOf yX8_startOf, Cond.code yX8_startOf cX8_startOf 2 (some .int), Cond.methodLink RX8 85 yX8_spotOf, Cond.static yX8_spotOf, Cond.code yX8_spotOf cX8_spotOf 3 (some .int), Cond.methodLink RX8 88 yX8_clash, Cond.instanceMethod yX8_clash, Cond.selects RX8 yX8_clash yX8_clash, Cond.code yX8_clash cX8_clash 5 (some .boolean), Cond.fieldLink RX8 18 "WovenRows$Town" "cells" "[I", Cond.methodLink RX8 76 Lib.Math.min.name, Cond.static Lib.Math.min.name, Cond.initialized "java/lang/Math"]
def wsX10_order_r3 : List Cond := [Cond.code Lib.Math.min.name Lib.Math.min.code 2 (some .int), Cond.fieldLink RX8 9 "WovenRows$Town" "widths" "[I", Cond.methodLink RX3 38 yX3_all, Cond.instanceMethod yX3_all, Cond.selects RX3 yX3_all yX3_all, Cond.code yX3_all cX3_all 1 (some .int), Cond.methodLink RX3 48 yX3_fewestOf, Cond.instanceMethod yX3_fewestOf, Cond.selects RX3 yX3_fewestOf yX3_fewestOf, Cond.code yX3_fewestOf cX3_fewestOf 5 (some .int), Cond.methodLink RX3 60 Lib.Math.min.name, Cond.methodLink RX3 52 yX3_holds, Cond.static yX3_holds, Cond.code yX3_holds cX3_holds 2 (some .boolean), Cond.methodLink RX3 56 yX3_ledBy, Cond.instanceMethod yX3_ledBy, Cond.selects RX3 yX3_ledBy yX3_ledBy, Cond.code yX3_ledBy cX3_ledBy 4 (some .int), Cond.methodLink RX3 65 yJ6_bitCount_0f7a4, Cond.static yJ6_bitCount_0f7a4, Cond.initialized RJ6, Cond.code yJ6_bitCount_0f7a4 cJ6_bitCount_0f7a4 1 (some .int), Cond.constant RJ6 265 (1431655765), Cond.constant RJ6 266 (858993459)]
def wsX10_order_r4 : List Cond := [Cond.constant RJ6 267 (252645135), Cond.methodLink RX3 70 yX3_without, Cond.static yX3_without, Cond.code yX3_without cX3_without 2 (some .int), Cond.methodLink RX10 190 yX3_answerForAll, Cond.instanceMethod yX3_answerForAll, Cond.selects RX3 yX3_answerForAll yX3_answerForAll, Cond.code yX3_answerForAll cX3_answerForAll 1 (some .int), Cond.methodLink RX10 193 yX3_firstOfFewest, Cond.instanceMethod yX3_firstOfFewest, Cond.selects RX3 yX3_firstOfFewest yX3_firstOfFewest, Cond.code yX3_firstOfFewest cX3_firstOfFewest 6 (some .int)]
def wsX10_order : List Cond := .code yX10_order cX10_order 3 (some .int) :: ((wsX10_order_r1 ++ (wsX10_order_r2 ++ (wsX10_order_r3 ++ wsX10_order_r4))) ++ wsX100 ++ wsX80 ++ wsX30 ++ wsX70)
def wsX10_start_r1 : List Cond := [Cond.fieldLink RX10 16 "WovenRows" "trial" "LWovenRows$Town;", Cond.fieldLink RX10 10 "WovenRows" "town" "LWovenRows$Town;", Cond.fieldLink RX10 67 "WovenRows" "fewest" "LWovenRows$Fewest;", Cond.fieldLink RX10 46 "WovenRows" "meetings" "LWovenRows$Meetings;", Cond.methodLink RX10 78 yX10_within, Cond.static yX10_within, Cond.initialized RX10, Cond.code yX10_within cX10_within 3 (some .boolean), Cond.methodLink RX10 196 yX8_takeFrom, Cond.instanceMethod yX8_takeFrom, Cond.selects RX8 yX8_takeFrom yX8_takeFrom, Cond.initialized RX8, Cond.code yX8_takeFrom cX8_takeFrom 2 none, Cond.fieldLink RX8 9 "WovenRows$Town" "widths" "[I", Cond.fieldLink RX8 15 "WovenRows$Town" "keys" "[I", Cond.fieldLink RX8 18 "WovenRows$Town" "cells" "[I", Cond.fieldLink RX8 21 "WovenRows$Town" "delays" "[I", Cond.fieldLink RX8 27 "WovenRows$Town" "rows" "LWovenRows$Rows;", Cond.fieldLink RX8 36 "WovenRows$Town" "rules" "LWovenRows$Pairs;", Cond.fieldLink RX8 40 "WovenRows$Town" "sights" "LWovenRows$Pairs;", Cond.static yX10_copy, Cond.code yX10_copy cX10_copy 3 none, Cond.methodLink RX8 51 yX7_takeFrom, Cond.instanceMethod yX7_takeFrom]
def wsX10_start_r2 : List Cond := [Cond.selects RX7 yX7_takeFrom yX7_takeFrom, Cond.initialized RX7, Cond.code yX7_takeFrom cX7_takeFrom 2 none, Cond.fieldLink RX7 9 "WovenRows$Rows" "rowOf" "[I", Cond.fieldLink RX7 15 "WovenRows$Rows" "placeOf" "[I", Cond.fieldLink RX7 18 "WovenRows$Rows" "rung" "I", Cond.methodLink RX8 55 yX5_takeFrom, Cond.instanceMethod yX5_takeFrom, Cond.selects RX5 yX5_takeFrom yX5_takeFrom, Cond.initialized RX5, Cond.code yX5_takeFrom cX5_takeFrom 2 none, Cond.fieldLink RX5 19 "WovenRows$Pairs" "firsts" "[I", Cond.fieldLink RX5 23 "WovenRows$Pairs" "seconds" "[I", Cond.fieldLink RX5 7 "WovenRows$Pairs" "count" "I", Cond.methodLink RX10 198 yX0_begin, Cond.instanceMethod yX0_begin, Cond.selects RX0 yX0_begin yX0_begin, Cond.initialized RX0, Cond.code yX0_begin cX0_begin 1 none, Cond.fieldLink RX0 9 "WovenRows$Fewest" "by" "I", Cond.fieldLink RX0 15 "WovenRows$Fewest" "count" "I", Cond.methodLink RX10 90 yX10_put, Cond.static yX10_put, Cond.code yX10_put cX10_put 3 none]
def wsX10_start_r3 : List Cond := [Cond.methodLink RX10 158 yX1_count, Cond.instanceMethod yX1_count, Cond.selects RX1 yX1_count yX1_count, Cond.initialized RX1, Cond.code yX1_count cX1_count 3 none, Cond.fieldLink RX1 9 "WovenRows$Meetings" "twos" "I", Cond.fieldLink RX1 15 "WovenRows$Meetings" "clashes" "I", Cond.fieldLink RX1 18 "WovenRows$Meetings" "first" "I", Cond.fieldLink RX1 21 "WovenRows$Meetings" "where" "I", Cond.static yX10_at, Cond.code yX10_at cX10_at 2 (some .int), Cond.methodLink RX1 43 yX1_countOf, Cond.instanceMethod yX1_countOf, Cond.selects RX1 yX1_countOf yX1_countOf, Cond.code yX1_countOf cX1_countOf 7 none, Cond.methodLink RX1 47 yX8_startOf, Cond.instanceMethod yX8_startOf, Cond.selects RX8 yX8_startOf yX8_startOf, Cond.code yX8_startOf cX8_startOf 2 (some .int), Cond.methodLink RX1 51 yX8_spotOf, Cond.static yX8_spotOf, Cond.code yX8_spotOf cX8_spotOf 3 (some .int), Cond.methodLink RX1 55 yX8_clash, Cond.instanceMethod yX8_clash]
def wsX10_start_r4 : List Cond := [Cond.selects RX8 yX8_clash yX8_clash, Cond.code yX8_clash cX8_clash 5 (some .boolean), Cond.methodLink RX8 76 Lib.Math.min.name, Cond.static Lib.Math.min.name, Cond.initialized "java/lang/Math", Cond.code Lib.Math.min.name Lib.Math.min.code 2 (some .int), Cond.methodLink RX1 62 yX1_noteClash, Cond.instanceMethod yX1_noteClash, Cond.selects RX1 yX1_noteClash yX1_noteClash, Cond.code yX1_noteClash cX1_noteClash 4 none, Cond.fieldLink RX1 24 "WovenRows$Meetings" "firstTurn" "I", Cond.methodLink RX10 201 yX0_offer, Cond.instanceMethod yX0_offer, Cond.selects RX0 yX0_offer yX0_offer, Cond.code yX0_offer cX0_offer 3 none]
def wsX10_start : List Cond := .code yX10_start cX10_start 3 (some .int) :: ((wsX10_start_r1 ++ (wsX10_start_r2 ++ (wsX10_start_r3 ++ wsX10_start_r4))) ++ wsX100 ++ wsX80 ++ wsX10 ++ wsX00 ++ wsX70 ++ wsX50)
def wsX10_door_r1 : List Cond := [Cond.fieldLink RX10 16 "WovenRows" "trial" "LWovenRows$Town;", Cond.fieldLink RX10 10 "WovenRows" "town" "LWovenRows$Town;", Cond.fieldLink RX10 67 "WovenRows" "fewest" "LWovenRows$Fewest;", Cond.fieldLink RX10 46 "WovenRows" "meetings" "LWovenRows$Meetings;", Cond.methodLink RX10 78 yX10_within, Cond.static yX10_within, Cond.initialized RX10, Cond.code yX10_within cX10_within 3 (some .boolean), Cond.methodLink RX10 196 yX8_takeFrom, Cond.instanceMethod yX8_takeFrom, Cond.selects RX8 yX8_takeFrom yX8_takeFrom, Cond.initialized RX8, Cond.code yX8_takeFrom cX8_takeFrom 2 none, Cond.fieldLink RX8 9 "WovenRows$Town" "widths" "[I", Cond.fieldLink RX8 15 "WovenRows$Town" "keys" "[I", Cond.fieldLink RX8 18 "WovenRows$Town" "cells" "[I", Cond.fieldLink RX8 21 "WovenRows$Town" "delays" "[I", Cond.fieldLink RX8 27 "WovenRows$Town" "rows" "LWovenRows$Rows;", Cond.fieldLink RX8 36 "WovenRows$Town" "rules" "LWovenRows$Pairs;", Cond.fieldLink RX8 40 "WovenRows$Town" "sights" "LWovenRows$Pairs;", Cond.static yX10_copy, Cond.code yX10_copy cX10_copy 3 none, Cond.methodLink RX8 51 yX7_takeFrom, Cond.instanceMethod yX7_takeFrom]
def wsX10_door_r2 : List Cond := [Cond.selects RX7 yX7_takeFrom yX7_takeFrom, Cond.initialized RX7, Cond.code yX7_takeFrom cX7_takeFrom 2 none, Cond.fieldLink RX7 9 "WovenRows$Rows" "rowOf" "[I", Cond.fieldLink RX7 15 "WovenRows$Rows" "placeOf" "[I", Cond.fieldLink RX7 18 "WovenRows$Rows" "rung" "I", Cond.methodLink RX8 55 yX5_takeFrom, Cond.instanceMethod yX5_takeFrom, Cond.selects RX5 yX5_takeFrom yX5_takeFrom, Cond.initialized RX5, Cond.code yX5_takeFrom cX5_takeFrom 2 none, Cond.fieldLink RX5 19 "WovenRows$Pairs" "firsts" "[I", Cond.fieldLink RX5 23 "WovenRows$Pairs" "seconds" "[I", Cond.fieldLink RX5 7 "WovenRows$Pairs" "count" "I", Cond.methodLink RX10 198 yX0_begin, Cond.instanceMethod yX0_begin, Cond.selects RX0 yX0_begin yX0_begin, Cond.initialized RX0, Cond.code yX0_begin cX0_begin 1 none, Cond.fieldLink RX0 9 "WovenRows$Fewest" "by" "I", Cond.fieldLink RX0 15 "WovenRows$Fewest" "count" "I", Cond.methodLink RX10 86 yX10_at, Cond.static yX10_at, Cond.code yX10_at cX10_at 2 (some .int)]
def wsX10_door_r3 : List Cond := [Cond.methodLink RX10 90 yX10_put, Cond.static yX10_put, Cond.code yX10_put cX10_put 3 none, Cond.methodLink RX10 158 yX1_count, Cond.instanceMethod yX1_count, Cond.selects RX1 yX1_count yX1_count, Cond.initialized RX1, Cond.code yX1_count cX1_count 3 none, Cond.fieldLink RX1 9 "WovenRows$Meetings" "twos" "I", Cond.fieldLink RX1 15 "WovenRows$Meetings" "clashes" "I", Cond.fieldLink RX1 18 "WovenRows$Meetings" "first" "I", Cond.fieldLink RX1 21 "WovenRows$Meetings" "where" "I", Cond.methodLink RX1 43 yX1_countOf, Cond.instanceMethod yX1_countOf, Cond.selects RX1 yX1_countOf yX1_countOf, Cond.code yX1_countOf cX1_countOf 7 none, Cond.methodLink RX1 47 yX8_startOf, Cond.instanceMethod yX8_startOf, Cond.selects RX8 yX8_startOf yX8_startOf, Cond.code yX8_startOf cX8_startOf 2 (some .int), Cond.methodLink RX1 51 yX8_spotOf, Cond.static yX8_spotOf, Cond.code yX8_spotOf cX8_spotOf 3 (some .int), Cond.methodLink RX1 55 yX8_clash]
def wsX10_door_r4 : List Cond := [Cond.instanceMethod yX8_clash, Cond.selects RX8 yX8_clash yX8_clash, Cond.code yX8_clash cX8_clash 5 (some .boolean), Cond.methodLink RX8 76 Lib.Math.min.name, Cond.static Lib.Math.min.name, Cond.initialized "java/lang/Math", Cond.code Lib.Math.min.name Lib.Math.min.code 2 (some .int), Cond.methodLink RX1 62 yX1_noteClash, Cond.instanceMethod yX1_noteClash, Cond.selects RX1 yX1_noteClash yX1_noteClash, Cond.code yX1_noteClash cX1_noteClash 4 none, Cond.fieldLink RX1 24 "WovenRows$Meetings" "firstTurn" "I", Cond.methodLink RX10 201 yX0_offer, Cond.instanceMethod yX0_offer, Cond.selects RX0 yX0_offer yX0_offer, Cond.code yX0_offer cX0_offer 3 none]
def wsX10_door : List Cond := .code yX10_door cX10_door 5 (some .int) :: ((wsX10_door_r1 ++ (wsX10_door_r2 ++ (wsX10_door_r3 ++ wsX10_door_r4))) ++ wsX100 ++ wsX80 ++ wsX10 ++ wsX00 ++ wsX70 ++ wsX50)
def wsX10_grate_r1 : List Cond := [Cond.fieldLink RX10 46 "WovenRows" "meetings" "LWovenRows$Meetings;", Cond.fieldLink RX10 10 "WovenRows" "town" "LWovenRows$Town;", Cond.fieldLink RX10 67 "WovenRows" "fewest" "LWovenRows$Fewest;", Cond.methodLink RX10 78 yX10_within, Cond.static yX10_within, Cond.initialized RX10, Cond.code yX10_within cX10_within 3 (some .boolean), Cond.methodLink RX10 209 yX1_grating, Cond.instanceMethod yX1_grating, Cond.selects RX1 yX1_grating yX1_grating, Cond.initialized RX1, Cond.code yX1_grating cX1_grating 5 (some .int), Cond.static yX10_at, Cond.code yX10_at cX10_at 2 (some .int), Cond.methodLink RX1 69 yX1_gratingWith, Cond.static yX1_gratingWith, Cond.code yX1_gratingWith cX1_gratingWith 6 (some .int), Cond.methodLink RX1 73 Lib.Math.abs.name, Cond.static Lib.Math.abs.name, Cond.initialized "java/lang/Math", Cond.code Lib.Math.abs.name Lib.Math.abs.code 1 (some .int), Cond.methodLink RX1 47 yX8_startOf, Cond.instanceMethod yX8_startOf, Cond.selects RX8 yX8_startOf yX8_startOf]
def wsX10_grate_r2 : List Cond := [Cond.initialized RX8, Cond.code yX8_startOf cX8_startOf 2 (some .int), Cond.fieldLink RX8 21 "WovenRows$Town" "delays" "[I", Cond.fieldLink RX8 27 "WovenRows$Town" "rows" "LWovenRows$Rows;", Cond.methodLink RX1 51 yX8_spotOf, Cond.static yX8_spotOf, Cond.code yX8_spotOf cX8_spotOf 3 (some .int), Cond.methodLink RX10 198 yX0_begin, Cond.instanceMethod yX0_begin, Cond.selects RX0 yX0_begin yX0_begin, Cond.initialized RX0, Cond.code yX0_begin cX0_begin 1 none, Cond.fieldLink RX0 9 "WovenRows$Fewest" "by" "I", Cond.fieldLink RX0 15 "WovenRows$Fewest" "count" "I", Cond.methodLink RX10 201 yX0_offer, Cond.instanceMethod yX0_offer, Cond.selects RX0 yX0_offer yX0_offer, Cond.code yX0_offer cX0_offer 3 none]
def wsX10_grate : List Cond := .code yX10_grate cX10_grate 3 (some .int) :: ((wsX10_grate_r1 ++ wsX10_grate_r2) ++ wsX100 ++ wsX00 ++ wsX80 ++ wsX70)
def wsX10_rule : List Cond := .code yX10_rule cX10_rule 3 (some .int) :: ([.fieldLink RX10 10 "WovenRows" "town" "LWovenRows$Town;", .methodLink RX10 78 yX10_within, .static yX10_within, .initialized RX10, .code yX10_within cX10_within 3 (some .boolean), .methodLink RX10 220 yX5_append, .instanceMethod yX5_append, .selects RX5 yX5_append yX5_append, .initialized RX5, .code yX5_append cX5_append 3 none, .fieldLink RX5 7 "WovenRows$Pairs" "count" "I", .fieldLink RX5 19 "WovenRows$Pairs" "firsts" "[I", .fieldLink RX5 23 "WovenRows$Pairs" "seconds" "[I", .static yX10_put, .code yX10_put cX10_put 3 none] ++ wsX100 ++ wsX80 ++ wsX50)
def wsX10_unrule : List Cond := .code yX10_unrule cX10_unrule 1 (some .int) :: ([.fieldLink RX10 10 "WovenRows" "town" "LWovenRows$Town;", .methodLink RX10 223 yX5_empty, .instanceMethod yX5_empty, .selects RX5 yX5_empty yX5_empty, .initialized RX5, .code yX5_empty cX5_empty 2 (some .int), .fieldLink RX5 7 "WovenRows$Pairs" "count" "I"] ++ wsX100 ++ wsX80 ++ wsX50)
def wsX10_orders_r1 : List Cond := [Cond.fieldLink RX10 53 "WovenRows" "arranging" "LWovenRows$Orders;", Cond.fieldLink RX10 10 "WovenRows" "town" "LWovenRows$Town;", Cond.methodLink RX10 100 yX10_isRow, Cond.static yX10_isRow, Cond.initialized RX10, Cond.code yX10_isRow cX10_isRow 1 (some .boolean), Cond.methodLink RX10 78 yX10_within, Cond.static yX10_within, Cond.code yX10_within cX10_within 3 (some .boolean), Cond.methodLink RX10 182 yX3_gather, Cond.instanceMethod yX3_gather, Cond.selects RX3 yX3_gather yX3_gather, Cond.initialized RX3, Cond.code yX3_gather cX3_gather 4 none, Cond.fieldLink RX3 21 "WovenRows$Orders" "size" "I", Cond.fieldLink RX3 9 "WovenRows$Orders" "crowd" "[I", Cond.static yX10_at, Cond.code yX10_at cX10_at 2 (some .int), Cond.static yX10_put, Cond.code yX10_put cX10_put 3 none, Cond.methodLink RX10 224 yX3_countOrders, Cond.instanceMethod yX3_countOrders, Cond.selects RX3 yX3_countOrders yX3_countOrders, Cond.code yX3_countOrders cX3_countOrders 6 none]
def wsX10_orders_r2 : List Cond := [Cond.fieldLink RX3 18 "WovenRows$Orders" "answers" "[I", Cond.methodLink RX3 38 yX3_all, Cond.instanceMethod yX3_all, Cond.selects RX3 yX3_all yX3_all, Cond.code yX3_all cX3_all 1 (some .int), Cond.methodLink RX3 52 yX3_holds, Cond.static yX3_holds, Cond.code yX3_holds cX3_holds 2 (some .boolean), Cond.methodLink RX3 73 yX3_mayLead, Cond.instanceMethod yX3_mayLead, Cond.selects RX3 yX3_mayLead yX3_mayLead, Cond.code yX3_mayLead cX3_mayLead 5 (some .boolean), Cond.methodLink RX3 88 yX3_holdsMember, Cond.instanceMethod yX3_holdsMember, Cond.selects RX3 yX3_holdsMember yX3_holdsMember, Cond.code yX3_holdsMember cX3_holdsMember 4 (some .boolean), Cond.methodLink RX3 70 yX3_without, Cond.static yX3_without, Cond.code yX3_without cX3_without 2 (some .int), Cond.methodLink RX10 190 yX3_answerForAll, Cond.instanceMethod yX3_answerForAll, Cond.selects RX3 yX3_answerForAll yX3_answerForAll, Cond.code yX3_answerForAll cX3_answerForAll 1 (some .int), Cond.methodLink RX10 228 yX3_firstByRules]
def wsX10_orders_r3 : List Cond := [Cond.instanceMethod yX3_firstByRules, Cond.selects RX3 yX3_firstByRules yX3_firstByRules, Cond.code yX3_firstByRules cX3_firstByRules 7 (some .int), Cond.methodLink RX3 91 yX3_answerForAll]
def wsX10_orders : List Cond := .code yX10_orders cX10_orders 3 (some .int) :: ((wsX10_orders_r1 ++ (wsX10_orders_r2 ++ wsX10_orders_r3)) ++ wsX100 ++ wsX80 ++ wsX30 ++ wsX70 ++ wsX50)
def wsX10_seen : List Cond := .code yX10_seen cX10_seen 3 (some .int) :: ([.fieldLink RX10 10 "WovenRows" "town" "LWovenRows$Town;", .methodLink RX10 78 yX10_within, .static yX10_within, .initialized RX10, .code yX10_within cX10_within 3 (some .boolean), .methodLink RX10 220 yX5_append, .instanceMethod yX5_append, .selects RX5 yX5_append yX5_append, .initialized RX5, .code yX5_append cX5_append 3 none, .fieldLink RX5 7 "WovenRows$Pairs" "count" "I", .fieldLink RX5 19 "WovenRows$Pairs" "firsts" "[I", .fieldLink RX5 23 "WovenRows$Pairs" "seconds" "[I", .static yX10_put, .code yX10_put cX10_put 3 none] ++ wsX100 ++ wsX80 ++ wsX50)
def wsX10_forget : List Cond := .code yX10_forget cX10_forget 1 (some .int) :: ([.fieldLink RX10 10 "WovenRows" "town" "LWovenRows$Town;", .methodLink RX10 223 yX5_empty, .instanceMethod yX5_empty, .selects RX5 yX5_empty yX5_empty, .initialized RX5, .code yX5_empty cX5_empty 2 (some .int), .fieldLink RX5 7 "WovenRows$Pairs" "count" "I"] ++ wsX100 ++ wsX80 ++ wsX50)
def wsX10_who_r1 : List Cond := [Cond.fieldLink RX10 60 "WovenRows" "watch" "LWovenRows$Watch;", Cond.fieldLink RX10 10 "WovenRows" "town" "LWovenRows$Town;", Cond.methodLink RX10 78 yX10_within, Cond.static yX10_within, Cond.initialized RX10, Cond.code yX10_within cX10_within 3 (some .boolean), Cond.methodLink RX10 235 yX9_fit, Cond.instanceMethod yX9_fit, Cond.selects RX9 yX9_fit yX9_fit, Cond.initialized RX9, Cond.code yX9_fit cX9_fit 6 none, Cond.fieldLink RX9 21 "WovenRows$Watch" "count" "I", Cond.fieldLink RX9 25 "WovenRows$Watch" "memberBits" "I", Cond.fieldLink RX9 28 "WovenRows$Watch" "lateBits" "I", Cond.fieldLink RX9 9 "WovenRows$Watch" "rowOf" "[I", Cond.fieldLink RX9 15 "WovenRows$Watch" "startOf" "[I", Cond.static yX10_at, Cond.code yX10_at cX10_at 2 (some .int), Cond.methodLink RX9 44 yX8_startOf, Cond.instanceMethod yX8_startOf, Cond.selects RX8 yX8_startOf yX8_startOf, Cond.initialized RX8, Cond.code yX8_startOf cX8_startOf 2 (some .int), Cond.fieldLink RX8 21 "WovenRows$Town" "delays" "[I"]
def wsX10_who_r2 : List Cond := [Cond.fieldLink RX8 27 "WovenRows$Town" "rows" "LWovenRows$Rows;", Cond.methodLink RX9 51 yX9_allAreSo, Cond.static yX9_allAreSo, Cond.code yX9_allAreSo cX9_allAreSo 4 (some .boolean), Cond.methodLink RX9 65 yX9_cellAt, Cond.static yX9_cellAt, Cond.code yX9_cellAt cX9_cellAt 4 (some .int), Cond.static yX10_put, Cond.code yX10_put cX10_put 3 none]
def wsX10_who : List Cond := .code yX10_who cX10_who 2 (some .int) :: ((wsX10_who_r1 ++ wsX10_who_r2) ++ wsX100 ++ wsX90 ++ wsX80 ++ wsX70 ++ wsX50)
def wsX10_look_r1 : List Cond := [Cond.fieldLink RX10 60 "WovenRows" "watch" "LWovenRows$Watch;", Cond.fieldLink RX10 10 "WovenRows" "town" "LWovenRows$Town;", Cond.fieldLink RX10 67 "WovenRows" "fewest" "LWovenRows$Fewest;", Cond.methodLink RX10 78 yX10_within, Cond.static yX10_within, Cond.initialized RX10, Cond.code yX10_within cX10_within 3 (some .boolean), Cond.methodLink RX10 235 yX9_fit, Cond.instanceMethod yX9_fit, Cond.selects RX9 yX9_fit yX9_fit, Cond.initialized RX9, Cond.code yX9_fit cX9_fit 6 none, Cond.fieldLink RX9 21 "WovenRows$Watch" "count" "I", Cond.fieldLink RX9 25 "WovenRows$Watch" "memberBits" "I", Cond.fieldLink RX9 28 "WovenRows$Watch" "lateBits" "I", Cond.fieldLink RX9 9 "WovenRows$Watch" "rowOf" "[I", Cond.fieldLink RX9 15 "WovenRows$Watch" "startOf" "[I", Cond.static yX10_at, Cond.code yX10_at cX10_at 2 (some .int), Cond.methodLink RX9 44 yX8_startOf, Cond.instanceMethod yX8_startOf, Cond.selects RX8 yX8_startOf yX8_startOf, Cond.initialized RX8, Cond.code yX8_startOf cX8_startOf 2 (some .int)]
def wsX10_look_r2 : List Cond := [Cond.fieldLink RX8 21 "WovenRows$Town" "delays" "[I", Cond.fieldLink RX8 27 "WovenRows$Town" "rows" "LWovenRows$Rows;", Cond.methodLink RX9 51 yX9_allAreSo, Cond.static yX9_allAreSo, Cond.code yX9_allAreSo cX9_allAreSo 4 (some .boolean), Cond.methodLink RX9 65 yX9_cellAt, Cond.static yX9_cellAt, Cond.code yX9_cellAt cX9_cellAt 4 (some .int), Cond.static yX10_put, Cond.code yX10_put cX10_put 3 none, Cond.methodLink RX10 198 yX0_begin, Cond.instanceMethod yX0_begin, Cond.selects RX0 yX0_begin yX0_begin, Cond.initialized RX0, Cond.code yX0_begin cX0_begin 1 none, Cond.fieldLink RX0 9 "WovenRows$Fewest" "by" "I", Cond.fieldLink RX0 15 "WovenRows$Fewest" "count" "I", Cond.methodLink RX10 245 yX9_mostLeftAt, Cond.instanceMethod yX9_mostLeftAt, Cond.selects RX9 yX9_mostLeftAt yX9_mostLeftAt, Cond.code yX9_mostLeftAt cX9_mostLeftAt 6 (some .int), Cond.fieldLink RX9 18 "WovenRows$Watch" "tally" "[I", Cond.methodLink RX9 80 Lib.Math.max.name, Cond.static Lib.Math.max.name]
def wsX10_look_r3 : List Cond := [Cond.initialized "java/lang/Math", Cond.code Lib.Math.max.name Lib.Math.max.code 2 (some .int), Cond.static yX10_fill, Cond.code yX10_fill cX10_fill 3 none, Cond.methodLink RX10 201 yX0_offer, Cond.instanceMethod yX0_offer, Cond.selects RX0 yX0_offer yX0_offer, Cond.code yX0_offer cX0_offer 3 none]
def wsX10_look : List Cond := .code yX10_look cX10_look 3 (some .int) :: ((wsX10_look_r1 ++ (wsX10_look_r2 ++ wsX10_look_r3)) ++ wsX100 ++ wsX90 ++ wsX00 ++ wsX80 ++ wsX70 ++ wsX50)
def wsX10_chance_r1 : List Cond := [Cond.constantLong RX10 248 (-1000000000000000002), Cond.fieldLink RX10 46 "WovenRows" "meetings" "LWovenRows$Meetings;", Cond.fieldLink RX10 10 "WovenRows" "town" "LWovenRows$Town;", Cond.constantLong RX10 250 (-1000000000000000003), Cond.fieldLink RX10 74 "WovenRows" "odds" "LWovenRows$Odds;", Cond.methodLink RX10 78 yX10_within, Cond.static yX10_within, Cond.initialized RX10, Cond.code yX10_within cX10_within 3 (some .boolean), Cond.methodLink RX10 158 yX1_count, Cond.instanceMethod yX1_count, Cond.selects RX1 yX1_count yX1_count, Cond.initialized RX1, Cond.code yX1_count cX1_count 3 none, Cond.fieldLink RX1 9 "WovenRows$Meetings" "twos" "I", Cond.fieldLink RX1 15 "WovenRows$Meetings" "clashes" "I", Cond.fieldLink RX1 18 "WovenRows$Meetings" "first" "I", Cond.fieldLink RX1 21 "WovenRows$Meetings" "where" "I", Cond.static yX10_at, Cond.code yX10_at cX10_at 2 (some .int), Cond.methodLink RX1 43 yX1_countOf, Cond.instanceMethod yX1_countOf, Cond.selects RX1 yX1_countOf yX1_countOf, Cond.code yX1_countOf cX1_countOf 7 none]
def wsX10_chance_r2 : List Cond := [Cond.methodLink RX1 47 yX8_startOf, Cond.instanceMethod yX8_startOf, Cond.selects RX8 yX8_startOf yX8_startOf, Cond.initialized RX8, Cond.code yX8_startOf cX8_startOf 2 (some .int), Cond.fieldLink RX8 21 "WovenRows$Town" "delays" "[I", Cond.fieldLink RX8 27 "WovenRows$Town" "rows" "LWovenRows$Rows;", Cond.methodLink RX1 51 yX8_spotOf, Cond.static yX8_spotOf, Cond.code yX8_spotOf cX8_spotOf 3 (some .int), Cond.methodLink RX1 55 yX8_clash, Cond.instanceMethod yX8_clash, Cond.selects RX8 yX8_clash yX8_clash, Cond.code yX8_clash cX8_clash 5 (some .boolean), Cond.fieldLink RX8 18 "WovenRows$Town" "cells" "[I", Cond.methodLink RX8 76 Lib.Math.min.name, Cond.static Lib.Math.min.name, Cond.initialized "java/lang/Math", Cond.code Lib.Math.min.name Lib.Math.min.code 2 (some .int), Cond.fieldLink RX8 9 "WovenRows$Town" "widths" "[I", Cond.methodLink RX1 62 yX1_noteClash, Cond.instanceMethod yX1_noteClash, Cond.selects RX1 yX1_noteClash yX1_noteClash, Cond.code yX1_noteClash cX1_noteClash 4 none]
def wsX10_chance_r3 : List Cond := [Cond.fieldLink RX1 24 "WovenRows$Meetings" "firstTurn" "I", Cond.methodLink RX10 252 yX2_reckon, Cond.instanceMethod yX2_reckon, Cond.selects RX2 yX2_reckon yX2_reckon, Cond.initialized RX2, Cond.code yX2_reckon cX2_reckon 10 none, Cond.fieldLink RX2 9 "WovenRows$Odds" "weights" "[J", Cond.constantLong RX2 26 (10), Cond.fieldLink RX2 15 "WovenRows$Odds" "upper" "J", Cond.fieldLink RX2 19 "WovenRows$Odds" "lower" "J", Cond.methodLink RX2 22 yX2_weigh, Cond.instanceMethod yX2_weigh, Cond.selects RX2 yX2_weigh yX2_weigh, Cond.code yX2_weigh cX2_weigh 7 none, Cond.methodLink RX2 28 yX2_commonDivisor, Cond.static yX2_commonDivisor, Cond.code yX2_commonDivisor cX2_commonDivisor 11 (some .long)]
def wsX10_chance : List Cond := .code yX10_chance cX10_chance 4 (some .long) :: ((wsX10_chance_r1 ++ (wsX10_chance_r2 ++ wsX10_chance_r3)) ++ wsX100 ++ wsX10 ++ wsX20 ++ wsX80 ++ wsX70)
def wsX10_year_r1 : List Cond := [Cond.fieldLink RX10 16 "WovenRows" "trial" "LWovenRows$Town;", Cond.fieldLink RX10 10 "WovenRows" "town" "LWovenRows$Town;", Cond.fieldLink RX10 46 "WovenRows" "meetings" "LWovenRows$Meetings;", Cond.methodLink RX10 78 yX10_within, Cond.static yX10_within, Cond.initialized RX10, Cond.code yX10_within cX10_within 3 (some .boolean), Cond.methodLink RX10 196 yX8_takeFrom, Cond.instanceMethod yX8_takeFrom, Cond.selects RX8 yX8_takeFrom yX8_takeFrom, Cond.initialized RX8, Cond.code yX8_takeFrom cX8_takeFrom 2 none, Cond.fieldLink RX8 9 "WovenRows$Town" "widths" "[I", Cond.fieldLink RX8 15 "WovenRows$Town" "keys" "[I", Cond.fieldLink RX8 18 "WovenRows$Town" "cells" "[I", Cond.fieldLink RX8 21 "WovenRows$Town" "delays" "[I", Cond.fieldLink RX8 27 "WovenRows$Town" "rows" "LWovenRows$Rows;", Cond.fieldLink RX8 36 "WovenRows$Town" "rules" "LWovenRows$Pairs;", Cond.fieldLink RX8 40 "WovenRows$Town" "sights" "LWovenRows$Pairs;", Cond.static yX10_copy, Cond.code yX10_copy cX10_copy 3 none, Cond.methodLink RX8 51 yX7_takeFrom, Cond.instanceMethod yX7_takeFrom, Cond.selects RX7 yX7_takeFrom yX7_takeFrom]
def wsX10_year_r2 : List Cond := [Cond.initialized RX7, Cond.code yX7_takeFrom cX7_takeFrom 2 none, Cond.fieldLink RX7 9 "WovenRows$Rows" "rowOf" "[I", Cond.fieldLink RX7 15 "WovenRows$Rows" "placeOf" "[I", Cond.fieldLink RX7 18 "WovenRows$Rows" "rung" "I", Cond.methodLink RX8 55 yX5_takeFrom, Cond.instanceMethod yX5_takeFrom, Cond.selects RX5 yX5_takeFrom yX5_takeFrom, Cond.initialized RX5, Cond.code yX5_takeFrom cX5_takeFrom 2 none, Cond.fieldLink RX5 19 "WovenRows$Pairs" "firsts" "[I", Cond.fieldLink RX5 23 "WovenRows$Pairs" "seconds" "[I", Cond.fieldLink RX5 7 "WovenRows$Pairs" "count" "I", Cond.methodLink RX10 263 yX7_drawYear, Cond.instanceMethod yX7_drawYear, Cond.selects RX7 yX7_drawYear yX7_drawYear, Cond.code yX7_drawYear cX7_drawYear 5 none, Cond.constant RX7 65 (65537), Cond.methodLink RX7 66 yX7_drawnKind, Cond.static yX7_drawnKind, Cond.code yX7_drawnKind cX7_drawnKind 1 (some .int), Cond.fieldLink RX7 72 "WovenRows$Rows" "DRAWN" "[C", Cond.methodLink RX7 69 yX7_attempt, Cond.instanceMethod yX7_attempt]
def wsX10_year_r3 : List Cond := [Cond.selects RX7 yX7_attempt yX7_attempt, Cond.code yX7_attempt cX7_attempt 5 (some .int), Cond.methodLink RX7 34 yX7_reasonAgainst, Cond.instanceMethod yX7_reasonAgainst, Cond.selects RX7 yX7_reasonAgainst yX7_reasonAgainst, Cond.code yX7_reasonAgainst cX7_reasonAgainst 4 (some .int), Cond.methodLink RX7 42 yX7_reasonAgainstJoining, Cond.instanceMethod yX7_reasonAgainstJoining, Cond.selects RX7 yX7_reasonAgainstJoining yX7_reasonAgainstJoining, Cond.code yX7_reasonAgainstJoining cX7_reasonAgainstJoining 3 (some .int), Cond.static yX10_at, Cond.code yX10_at cX10_at 2 (some .int), Cond.methodLink RX7 46 yX7_lengthOf, Cond.instanceMethod yX7_lengthOf, Cond.selects RX7 yX7_lengthOf yX7_lengthOf, Cond.code yX7_lengthOf cX7_lengthOf 4 (some .int), Cond.methodLink RX7 38 yX7_carryOut, Cond.instanceMethod yX7_carryOut, Cond.selects RX7 yX7_carryOut yX7_carryOut, Cond.code yX7_carryOut cX7_carryOut 4 none, Cond.methodLink RX7 50 yX7_join, Cond.instanceMethod yX7_join, Cond.selects RX7 yX7_join yX7_join, Cond.code yX7_join cX7_join 3 none]
def wsX10_year_r4 : List Cond := [Cond.static yX10_put, Cond.code yX10_put cX10_put 3 none, Cond.methodLink RX7 54 yX7_leave, Cond.instanceMethod yX7_leave, Cond.selects RX7 yX7_leave yX7_leave, Cond.code yX7_leave cX7_leave 6 none, Cond.methodLink RX7 58 yX7_swap, Cond.static yX7_swap, Cond.code yX7_swap cX7_swap 4 none, Cond.methodLink RX10 266 yX7_lengthOf, Cond.methodLink RX10 158 yX1_count, Cond.instanceMethod yX1_count, Cond.selects RX1 yX1_count yX1_count, Cond.initialized RX1, Cond.code yX1_count cX1_count 3 none, Cond.fieldLink RX1 9 "WovenRows$Meetings" "twos" "I", Cond.fieldLink RX1 15 "WovenRows$Meetings" "clashes" "I", Cond.fieldLink RX1 18 "WovenRows$Meetings" "first" "I", Cond.fieldLink RX1 21 "WovenRows$Meetings" "where" "I", Cond.methodLink RX1 43 yX1_countOf, Cond.instanceMethod yX1_countOf, Cond.selects RX1 yX1_countOf yX1_countOf, Cond.code yX1_countOf cX1_countOf 7 none, Cond.methodLink RX1 47 yX8_startOf]
def wsX10_year_r5 : List Cond := [Cond.instanceMethod yX8_startOf, Cond.selects RX8 yX8_startOf yX8_startOf, Cond.code yX8_startOf cX8_startOf 2 (some .int), Cond.methodLink RX1 51 yX8_spotOf, Cond.static yX8_spotOf, Cond.code yX8_spotOf cX8_spotOf 3 (some .int), Cond.methodLink RX1 55 yX8_clash, Cond.instanceMethod yX8_clash, Cond.selects RX8 yX8_clash yX8_clash, Cond.code yX8_clash cX8_clash 5 (some .boolean), Cond.methodLink RX8 76 Lib.Math.min.name, Cond.static Lib.Math.min.name, Cond.initialized "java/lang/Math", Cond.code Lib.Math.min.name Lib.Math.min.code 2 (some .int), Cond.methodLink RX1 62 yX1_noteClash, Cond.instanceMethod yX1_noteClash, Cond.selects RX1 yX1_noteClash yX1_noteClash, Cond.code yX1_noteClash cX1_noteClash 4 none, Cond.fieldLink RX1 24 "WovenRows$Meetings" "firstTurn" "I"]
def wsX10_year : List Cond := .code yX10_year cX10_year 4 (some .int) :: ((wsX10_year_r1 ++ (wsX10_year_r2 ++ (wsX10_year_r3 ++ (wsX10_year_r4 ++ wsX10_year_r5)))) ++ wsX100 ++ wsX80 ++ wsX70 ++ wsX10 ++ wsX50)
def wsX10_imageOf : List Cond := .code yX10_imageOf cX10_imageOf 2 (some (.object "WovenRows$Town")) :: ([.fieldLink RX10 19 "WovenRows" "firstImage" "LWovenRows$Town;", .fieldLink RX10 22 "WovenRows" "secondImage" "LWovenRows$Town;"] ++ wsX100)
def wsX10_image_r1 : List Cond := [Cond.fieldLink RX10 10 "WovenRows" "town" "LWovenRows$Town;", Cond.fieldLink RX10 25 "WovenRows" "keptImages" "I", Cond.methodLink RX10 78 yX10_within, Cond.static yX10_within, Cond.initialized RX10, Cond.code yX10_within cX10_within 3 (some .boolean), Cond.methodLink RX10 269 yX10_imageOf, Cond.instanceMethod yX10_imageOf, Cond.selects RX10 yX10_imageOf yX10_imageOf, Cond.code yX10_imageOf cX10_imageOf 2 (some (.object "WovenRows$Town")), Cond.fieldLink RX10 19 "WovenRows" "firstImage" "LWovenRows$Town;", Cond.fieldLink RX10 22 "WovenRows" "secondImage" "LWovenRows$Town;", Cond.methodLink RX10 196 yX8_takeFrom, Cond.instanceMethod yX8_takeFrom, Cond.selects RX8 yX8_takeFrom yX8_takeFrom, Cond.initialized RX8, Cond.code yX8_takeFrom cX8_takeFrom 2 none, Cond.fieldLink RX8 9 "WovenRows$Town" "widths" "[I", Cond.fieldLink RX8 15 "WovenRows$Town" "keys" "[I", Cond.fieldLink RX8 18 "WovenRows$Town" "cells" "[I", Cond.fieldLink RX8 21 "WovenRows$Town" "delays" "[I", Cond.fieldLink RX8 27 "WovenRows$Town" "rows" "LWovenRows$Rows;", Cond.fieldLink RX8 36 "WovenRows$Town" "rules" "LWovenRows$Pairs;", Cond.fieldLink RX8 40 "WovenRows$Town" "sights" "LWovenRows$Pairs;"]
def wsX10_image_r2 : List Cond := [Cond.static yX10_copy, Cond.code yX10_copy cX10_copy 3 none, Cond.methodLink RX8 51 yX7_takeFrom, Cond.instanceMethod yX7_takeFrom, Cond.selects RX7 yX7_takeFrom yX7_takeFrom, Cond.initialized RX7, Cond.code yX7_takeFrom cX7_takeFrom 2 none, Cond.fieldLink RX7 9 "WovenRows$Rows" "rowOf" "[I", Cond.fieldLink RX7 15 "WovenRows$Rows" "placeOf" "[I", Cond.fieldLink RX7 18 "WovenRows$Rows" "rung" "I", Cond.methodLink RX8 55 yX5_takeFrom, Cond.instanceMethod yX5_takeFrom, Cond.selects RX5 yX5_takeFrom yX5_takeFrom, Cond.initialized RX5, Cond.code yX5_takeFrom cX5_takeFrom 2 none, Cond.fieldLink RX5 19 "WovenRows$Pairs" "firsts" "[I", Cond.fieldLink RX5 23 "WovenRows$Pairs" "seconds" "[I", Cond.fieldLink RX5 7 "WovenRows$Pairs" "count" "I"]
def wsX10_image : List Cond := .code yX10_image cX10_image 2 (some .int) :: ((wsX10_image_r1 ++ wsX10_image_r2) ++ wsX100 ++ wsX80 ++ wsX70 ++ wsX50)
def wsX10_restore_r1 : List Cond := [Cond.fieldLink RX10 25 "WovenRows" "keptImages" "I", Cond.fieldLink RX10 10 "WovenRows" "town" "LWovenRows$Town;", Cond.methodLink RX10 78 yX10_within, Cond.static yX10_within, Cond.initialized RX10, Cond.code yX10_within cX10_within 3 (some .boolean), Cond.methodLink RX10 269 yX10_imageOf, Cond.instanceMethod yX10_imageOf, Cond.selects RX10 yX10_imageOf yX10_imageOf, Cond.code yX10_imageOf cX10_imageOf 2 (some (.object "WovenRows$Town")), Cond.fieldLink RX10 19 "WovenRows" "firstImage" "LWovenRows$Town;", Cond.fieldLink RX10 22 "WovenRows" "secondImage" "LWovenRows$Town;", Cond.methodLink RX10 196 yX8_takeFrom, Cond.instanceMethod yX8_takeFrom, Cond.selects RX8 yX8_takeFrom yX8_takeFrom, Cond.initialized RX8, Cond.code yX8_takeFrom cX8_takeFrom 2 none, Cond.fieldLink RX8 9 "WovenRows$Town" "widths" "[I", Cond.fieldLink RX8 15 "WovenRows$Town" "keys" "[I", Cond.fieldLink RX8 18 "WovenRows$Town" "cells" "[I", Cond.fieldLink RX8 21 "WovenRows$Town" "delays" "[I", Cond.fieldLink RX8 27 "WovenRows$Town" "rows" "LWovenRows$Rows;", Cond.fieldLink RX8 36 "WovenRows$Town" "rules" "LWovenRows$Pairs;", Cond.fieldLink RX8 40 "WovenRows$Town" "sights" "LWovenRows$Pairs;"]
def wsX10_restore_r2 : List Cond := [Cond.static yX10_copy, Cond.code yX10_copy cX10_copy 3 none, Cond.methodLink RX8 51 yX7_takeFrom, Cond.instanceMethod yX7_takeFrom, Cond.selects RX7 yX7_takeFrom yX7_takeFrom, Cond.initialized RX7, Cond.code yX7_takeFrom cX7_takeFrom 2 none, Cond.fieldLink RX7 9 "WovenRows$Rows" "rowOf" "[I", Cond.fieldLink RX7 15 "WovenRows$Rows" "placeOf" "[I", Cond.fieldLink RX7 18 "WovenRows$Rows" "rung" "I", Cond.methodLink RX8 55 yX5_takeFrom, Cond.instanceMethod yX5_takeFrom, Cond.selects RX5 yX5_takeFrom yX5_takeFrom, Cond.initialized RX5, Cond.code yX5_takeFrom cX5_takeFrom 2 none, Cond.fieldLink RX5 19 "WovenRows$Pairs" "firsts" "[I", Cond.fieldLink RX5 23 "WovenRows$Pairs" "seconds" "[I", Cond.fieldLink RX5 7 "WovenRows$Pairs" "count" "I"]
def wsX10_restore : List Cond := .code yX10_restore cX10_restore 2 (some .int) :: ((wsX10_restore_r1 ++ wsX10_restore_r2) ++ wsX100 ++ wsX80 ++ wsX70 ++ wsX50)
def wsX10_toldCount : List Cond := .code yX10_toldCount cX10_toldCount 2 (some .int) :: ([.fieldLink RX10 32 "WovenRows" "pad" "LWovenRows$Pad;", .fieldLink RX10 10 "WovenRows" "town" "LWovenRows$Town;", .methodLink RX10 266 yX7_lengthOf, .instanceMethod yX7_lengthOf, .selects RX7 yX7_lengthOf yX7_lengthOf, .initialized RX7, .code yX7_lengthOf cX7_lengthOf 4 (some .int), .fieldLink RX7 9 "WovenRows$Rows" "rowOf" "[I"] ++ wsX100 ++ wsX40 ++ wsX80 ++ wsX70 ++ wsX50)
def wsX10_told : List Cond := .code yX10_told cX10_told 2 (some .int) :: ([.fieldLink RX10 10 "WovenRows" "town" "LWovenRows$Town;", .methodLink RX10 78 yX10_within, .static yX10_within, .initialized RX10, .code yX10_within cX10_within 3 (some .boolean), .methodLink RX10 273 yX10_toldCount, .instanceMethod yX10_toldCount, .selects RX10 yX10_toldCount yX10_toldCount, .code yX10_toldCount cX10_toldCount 2 (some .int), .fieldLink RX10 32 "WovenRows" "pad" "LWovenRows$Pad;", .methodLink RX10 266 yX7_lengthOf, .instanceMethod yX7_lengthOf, .selects RX7 yX7_lengthOf yX7_lengthOf, .initialized RX7, .code yX7_lengthOf cX7_lengthOf 4 (some .int), .fieldLink RX7 9 "WovenRows$Rows" "rowOf" "[I", .methodLink RX10 86 yX10_at, .static yX10_at, .code yX10_at cX10_at 2 (some .int), .methodLink RX10 145 yX7_whoIsAt, .instanceMethod yX7_whoIsAt, .selects RX7 yX7_whoIsAt yX7_whoIsAt, .code yX7_whoIsAt cX7_whoIsAt 4 (some .int), .fieldLink RX7 15 "WovenRows$Rows" "placeOf" "[I"] ++ wsX100 ++ wsX80 ++ wsX40 ++ wsX70 ++ wsX50)
def wsX11_init : List Cond := .code yX11_init cX11_init 2 none :: ([.methodLink RX11 1 objectInit, .instanceMethod objectInit, .code objectInit ⟨#[0xb1]⟩ 1 none, .arrayClass .int, .fieldLink RX11 7 "WovenRowsModel" "book" "[I", .fieldLink RX11 13 "WovenRowsModel" "now" "[I", .fieldLink RX11 16 "WovenRowsModel" "width" "[I", .fieldLink RX11 19 "WovenRowsModel" "key" "[I", .fieldLink RX11 22 "WovenRowsModel" "wide" "[I", .fieldLink RX11 25 "WovenRowsModel" "delay" "[I", .fieldLink RX11 28 "WovenRowsModel" "ahead" "[I", .fieldLink RX11 31 "WovenRowsModel" "after" "[I", .fieldLink RX11 34 "WovenRowsModel" "sight" "[I", .fieldLink RX11 37 "WovenRowsModel" "pad" "[I", .fieldLink RX11 40 "WovenRowsModel" "counts" "[I", .arrayClass .boolean, .fieldLink RX11 43 "WovenRowsModel" "isOne" "[Z", .arrayClass .long, .fieldLink RX11 47 "WovenRowsModel" "ways" "[J", .fieldLink RX11 51 "WovenRowsModel" "image" "[I", .fieldLink RX11 54 "WovenRowsModel" "isKept" "[Z"] ++ wsX110)
def wsX11_in : List Cond := .code yX11_in cX11_in 3 (some .boolean) :: ([])
def wsX11_bits : List Cond := .code yX11_bits cX11_bits 3 (some .int) :: ([])
def wsX11_isMember : List Cond := .code yX11_isMember cX11_isMember 1 (some .boolean) :: ([.methodLink RX11 57 yX11_in, .static yX11_in, .initialized RX11, .code yX11_in cX11_in 3 (some .boolean)])
def wsX11_isRow : List Cond := .code yX11_isRow cX11_isRow 1 (some .boolean) :: ([])
def wsX11_member : List Cond := .code yX11_member cX11_member 5 (some .int) :: ([.fieldLink RX11 16 "WovenRowsModel" "width" "[I", .fieldLink RX11 19 "WovenRowsModel" "key" "[I", .methodLink RX11 61 yX11_isMember, .static yX11_isMember, .initialized RX11, .code yX11_isMember cX11_isMember 1 (some .boolean), .methodLink RX11 57 yX11_in, .static yX11_in, .code yX11_in cX11_in 3 (some .boolean)] ++ wsX110)
def wsX11_wide : List Cond := .code yX11_wide cX11_wide 4 (some .int) :: ([.fieldLink RX11 22 "WovenRowsModel" "wide" "[I", .methodLink RX11 57 yX11_in, .static yX11_in, .initialized RX11, .code yX11_in cX11_in 3 (some .boolean)] ++ wsX110)
def wsX11_delay : List Cond := .code yX11_delay cX11_delay 4 (some .int) :: ([.fieldLink RX11 25 "WovenRowsModel" "delay" "[I", .methodLink RX11 65 yX11_isRow, .static yX11_isRow, .initialized RX11, .code yX11_isRow cX11_isRow 1 (some .boolean), .methodLink RX11 57 yX11_in, .static yX11_in, .code yX11_in cX11_in 3 (some .boolean)] ++ wsX110)
def wsX11_say : List Cond := .code yX11_say cX11_say 2 (some .int) :: ([.fieldLink RX11 68 "WovenRowsModel" "signs" "I", .fieldLink RX11 37 "WovenRowsModel" "pad" "[I", .methodLink RX11 57 yX11_in, .static yX11_in, .initialized RX11, .code yX11_in cX11_in 3 (some .boolean)] ++ wsX110)
def wsX11_wipe : List Cond := .code yX11_wipe cX11_wipe 2 (some .int) :: ([.fieldLink RX11 68 "WovenRowsModel" "signs" "I"] ++ wsX110)
def wsX11_isLetter : List Cond := .code yX11_isLetter cX11_isLetter 1 (some .boolean) :: ([.methodLink RX11 57 yX11_in, .static yX11_in, .initialized RX11, .code yX11_in cX11_in 3 (some .boolean)])
def wsX11_faultOf : List Cond := .code yX11_faultOf cX11_faultOf 5 (some .int) :: ([.fieldLink RX11 68 "WovenRowsModel" "signs" "I", .fieldLink RX11 37 "WovenRowsModel" "pad" "[I", .methodLink RX11 72 yX11_isLetter, .static yX11_isLetter, .initialized RX11, .code yX11_isLetter cX11_isLetter 1 (some .boolean), .methodLink RX11 57 yX11_in, .static yX11_in, .code yX11_in cX11_in 3 (some .boolean)] ++ wsX110)
def wsX11_fault : List Cond := .code yX11_fault cX11_fault 1 (some .int) :: ([.methodLink RX11 75 yX11_faultOf, .instanceMethod yX11_faultOf, .selects RX11 yX11_faultOf yX11_faultOf, .initialized RX11, .code yX11_faultOf cX11_faultOf 5 (some .int), .fieldLink RX11 68 "WovenRowsModel" "signs" "I", .fieldLink RX11 37 "WovenRowsModel" "pad" "[I", .methodLink RX11 72 yX11_isLetter, .static yX11_isLetter, .code yX11_isLetter cX11_isLetter 1 (some .boolean), .methodLink RX11 57 yX11_in, .static yX11_in, .code yX11_in cX11_in 3 (some .boolean)] ++ wsX110)
def wsX11_asNow : List Cond := .code yX11_asNow cX11_asNow 2 none :: ([.fieldLink RX11 13 "WovenRowsModel" "now" "[I", .fieldLink RX11 7 "WovenRowsModel" "book" "[I"] ++ wsX110)
def wsX11_spotOf : List Cond := .code yX11_spotOf cX11_spotOf 4 (some .int) :: ([.fieldLink RX11 13 "WovenRowsModel" "now" "[I"] ++ wsX110)
def wsX11_join : List Cond := .code yX11_join cX11_join 3 (some .int) :: ([.fieldLink RX11 13 "WovenRowsModel" "now" "[I", .methodLink RX11 79 yX11_spotOf, .instanceMethod yX11_spotOf, .selects RX11 yX11_spotOf yX11_spotOf, .initialized RX11, .code yX11_spotOf cX11_spotOf 4 (some .int)] ++ wsX110)
def wsX11_goHome : List Cond := .code yX11_goHome cX11_goHome 5 (some .int) :: ([.fieldLink RX11 13 "WovenRowsModel" "now" "[I", .methodLink RX11 79 yX11_spotOf, .instanceMethod yX11_spotOf, .selects RX11 yX11_spotOf yX11_spotOf, .initialized RX11, .code yX11_spotOf cX11_spotOf 4 (some .int)] ++ wsX110)
def wsX11_change : List Cond := .code yX11_change cX11_change 5 (some .int) :: ([.fieldLink RX11 13 "WovenRowsModel" "now" "[I", .methodLink RX11 79 yX11_spotOf, .instanceMethod yX11_spotOf, .selects RX11 yX11_spotOf yX11_spotOf, .initialized RX11, .code yX11_spotOf cX11_spotOf 4 (some .int)] ++ wsX110)
def wsX11_ring : List Cond := .code yX11_ring cX11_ring 1 (some .int) :: ([.fieldLink RX11 13 "WovenRowsModel" "now" "[I"] ++ wsX110)
def wsX11_goDays_r1 : List Cond := [Cond.fieldLink RX11 86 "WovenRowsModel" "acts" "I", Cond.fieldLink RX11 68 "WovenRowsModel" "signs" "I", Cond.fieldLink RX11 37 "WovenRowsModel" "pad" "[I", Cond.fieldLink RX11 92 "WovenRowsModel" "reason" "I", Cond.methodLink RX11 83 yX11_asNow, Cond.instanceMethod yX11_asNow, Cond.selects RX11 yX11_asNow yX11_asNow, Cond.initialized RX11, Cond.code yX11_asNow cX11_asNow 2 none, Cond.fieldLink RX11 13 "WovenRowsModel" "now" "[I", Cond.fieldLink RX11 7 "WovenRowsModel" "book" "[I", Cond.methodLink RX11 89 yX11_ring, Cond.instanceMethod yX11_ring, Cond.selects RX11 yX11_ring yX11_ring, Cond.code yX11_ring cX11_ring 1 (some .int), Cond.methodLink RX11 95 yX11_change, Cond.instanceMethod yX11_change, Cond.selects RX11 yX11_change yX11_change, Cond.code yX11_change cX11_change 5 (some .int), Cond.methodLink RX11 79 yX11_spotOf, Cond.instanceMethod yX11_spotOf, Cond.selects RX11 yX11_spotOf yX11_spotOf, Cond.code yX11_spotOf cX11_spotOf 4 (some .int), Cond.methodLink RX11 99 yX11_goHome]
def wsX11_goDays_r2 : List Cond := [Cond.instanceMethod yX11_goHome, Cond.selects RX11 yX11_goHome yX11_goHome, Cond.code yX11_goHome cX11_goHome 5 (some .int), Cond.methodLink RX11 102 yX11_join, Cond.instanceMethod yX11_join, Cond.selects RX11 yX11_join yX11_join, Cond.code yX11_join cX11_join 3 (some .int)]
def wsX11_goDays : List Cond := .code yX11_goDays cX11_goDays 4 (some .int) :: ((wsX11_goDays_r1 ++ wsX11_goDays_r2) ++ wsX110)
def wsX11_judge_r1 : List Cond := [Cond.fieldLink RX11 92 "WovenRowsModel" "reason" "I", Cond.methodLink RX11 57 yX11_in, Cond.static yX11_in, Cond.initialized RX11, Cond.code yX11_in cX11_in 3 (some .boolean), Cond.methodLink RX11 75 yX11_faultOf, Cond.instanceMethod yX11_faultOf, Cond.selects RX11 yX11_faultOf yX11_faultOf, Cond.code yX11_faultOf cX11_faultOf 5 (some .int), Cond.fieldLink RX11 68 "WovenRowsModel" "signs" "I", Cond.fieldLink RX11 37 "WovenRowsModel" "pad" "[I", Cond.methodLink RX11 72 yX11_isLetter, Cond.static yX11_isLetter, Cond.code yX11_isLetter cX11_isLetter 1 (some .boolean), Cond.methodLink RX11 105 yX11_goDays, Cond.instanceMethod yX11_goDays, Cond.selects RX11 yX11_goDays yX11_goDays, Cond.code yX11_goDays cX11_goDays 4 (some .int), Cond.fieldLink RX11 86 "WovenRowsModel" "acts" "I", Cond.methodLink RX11 83 yX11_asNow, Cond.instanceMethod yX11_asNow, Cond.selects RX11 yX11_asNow yX11_asNow, Cond.code yX11_asNow cX11_asNow 2 none, Cond.fieldLink RX11 13 "WovenRowsModel" "now" "[I"]
def wsX11_judge_r2 : List Cond := [Cond.fieldLink RX11 7 "WovenRowsModel" "book" "[I", Cond.methodLink RX11 89 yX11_ring, Cond.instanceMethod yX11_ring, Cond.selects RX11 yX11_ring yX11_ring, Cond.code yX11_ring cX11_ring 1 (some .int), Cond.methodLink RX11 95 yX11_change, Cond.instanceMethod yX11_change, Cond.selects RX11 yX11_change yX11_change, Cond.code yX11_change cX11_change 5 (some .int), Cond.methodLink RX11 79 yX11_spotOf, Cond.instanceMethod yX11_spotOf, Cond.selects RX11 yX11_spotOf yX11_spotOf, Cond.code yX11_spotOf cX11_spotOf 4 (some .int), Cond.methodLink RX11 99 yX11_goHome, Cond.instanceMethod yX11_goHome, Cond.selects RX11 yX11_goHome yX11_goHome, Cond.code yX11_goHome cX11_goHome 5 (some .int), Cond.methodLink RX11 102 yX11_join, Cond.instanceMethod yX11_join, Cond.selects RX11 yX11_join yX11_join, Cond.code yX11_join cX11_join 3 (some .int)]
def wsX11_judge : List Cond := .code yX11_judge cX11_judge 3 (some .int) :: ((wsX11_judge_r1 ++ wsX11_judge_r2) ++ wsX110)
def wsX11_barOfDays_r1 : List Cond := [Cond.methodLink RX11 75 yX11_faultOf, Cond.instanceMethod yX11_faultOf, Cond.selects RX11 yX11_faultOf yX11_faultOf, Cond.initialized RX11, Cond.code yX11_faultOf cX11_faultOf 5 (some .int), Cond.fieldLink RX11 68 "WovenRowsModel" "signs" "I", Cond.fieldLink RX11 37 "WovenRowsModel" "pad" "[I", Cond.methodLink RX11 72 yX11_isLetter, Cond.static yX11_isLetter, Cond.code yX11_isLetter cX11_isLetter 1 (some .boolean), Cond.methodLink RX11 57 yX11_in, Cond.static yX11_in, Cond.code yX11_in cX11_in 3 (some .boolean), Cond.methodLink RX11 105 yX11_goDays, Cond.instanceMethod yX11_goDays, Cond.selects RX11 yX11_goDays yX11_goDays, Cond.code yX11_goDays cX11_goDays 4 (some .int), Cond.fieldLink RX11 86 "WovenRowsModel" "acts" "I", Cond.fieldLink RX11 92 "WovenRowsModel" "reason" "I", Cond.methodLink RX11 83 yX11_asNow, Cond.instanceMethod yX11_asNow, Cond.selects RX11 yX11_asNow yX11_asNow, Cond.code yX11_asNow cX11_asNow 2 none, Cond.fieldLink RX11 13 "WovenRowsModel" "now" "[I"]
def wsX11_barOfDays_r2 : List Cond := [Cond.fieldLink RX11 7 "WovenRowsModel" "book" "[I", Cond.methodLink RX11 89 yX11_ring, Cond.instanceMethod yX11_ring, Cond.selects RX11 yX11_ring yX11_ring, Cond.code yX11_ring cX11_ring 1 (some .int), Cond.methodLink RX11 95 yX11_change, Cond.instanceMethod yX11_change, Cond.selects RX11 yX11_change yX11_change, Cond.code yX11_change cX11_change 5 (some .int), Cond.methodLink RX11 79 yX11_spotOf, Cond.instanceMethod yX11_spotOf, Cond.selects RX11 yX11_spotOf yX11_spotOf, Cond.code yX11_spotOf cX11_spotOf 4 (some .int), Cond.methodLink RX11 99 yX11_goHome, Cond.instanceMethod yX11_goHome, Cond.selects RX11 yX11_goHome yX11_goHome, Cond.code yX11_goHome cX11_goHome 5 (some .int), Cond.methodLink RX11 102 yX11_join, Cond.instanceMethod yX11_join, Cond.selects RX11 yX11_join yX11_join, Cond.code yX11_join cX11_join 3 (some .int)]
def wsX11_barOfDays : List Cond := .code yX11_barOfDays cX11_barOfDays 1 (some .int) :: ((wsX11_barOfDays_r1 ++ wsX11_barOfDays_r2) ++ wsX110)
def wsX11_done_r1 : List Cond := [Cond.fieldLink RX11 7 "WovenRowsModel" "book" "[I", Cond.fieldLink RX11 13 "WovenRowsModel" "now" "[I", Cond.fieldLink RX11 68 "WovenRowsModel" "signs" "I", Cond.fieldLink RX11 86 "WovenRowsModel" "acts" "I", Cond.methodLink RX11 108 yX11_barOfDays, Cond.instanceMethod yX11_barOfDays, Cond.selects RX11 yX11_barOfDays yX11_barOfDays, Cond.initialized RX11, Cond.code yX11_barOfDays cX11_barOfDays 1 (some .int), Cond.methodLink RX11 75 yX11_faultOf, Cond.instanceMethod yX11_faultOf, Cond.selects RX11 yX11_faultOf yX11_faultOf, Cond.code yX11_faultOf cX11_faultOf 5 (some .int), Cond.fieldLink RX11 37 "WovenRowsModel" "pad" "[I", Cond.methodLink RX11 72 yX11_isLetter, Cond.static yX11_isLetter, Cond.code yX11_isLetter cX11_isLetter 1 (some .boolean), Cond.methodLink RX11 57 yX11_in, Cond.static yX11_in, Cond.code yX11_in cX11_in 3 (some .boolean), Cond.methodLink RX11 105 yX11_goDays, Cond.instanceMethod yX11_goDays, Cond.selects RX11 yX11_goDays yX11_goDays, Cond.code yX11_goDays cX11_goDays 4 (some .int)]
def wsX11_done_r2 : List Cond := [Cond.fieldLink RX11 92 "WovenRowsModel" "reason" "I", Cond.methodLink RX11 83 yX11_asNow, Cond.instanceMethod yX11_asNow, Cond.selects RX11 yX11_asNow yX11_asNow, Cond.code yX11_asNow cX11_asNow 2 none, Cond.methodLink RX11 89 yX11_ring, Cond.instanceMethod yX11_ring, Cond.selects RX11 yX11_ring yX11_ring, Cond.code yX11_ring cX11_ring 1 (some .int), Cond.methodLink RX11 95 yX11_change, Cond.instanceMethod yX11_change, Cond.selects RX11 yX11_change yX11_change, Cond.code yX11_change cX11_change 5 (some .int), Cond.methodLink RX11 79 yX11_spotOf, Cond.instanceMethod yX11_spotOf, Cond.selects RX11 yX11_spotOf yX11_spotOf, Cond.code yX11_spotOf cX11_spotOf 4 (some .int), Cond.methodLink RX11 99 yX11_goHome, Cond.instanceMethod yX11_goHome, Cond.selects RX11 yX11_goHome yX11_goHome, Cond.code yX11_goHome cX11_goHome 5 (some .int), Cond.methodLink RX11 102 yX11_join, Cond.instanceMethod yX11_join, Cond.selects RX11 yX11_join yX11_join]
def wsX11_done_r3 : List Cond := [Cond.code yX11_join cX11_join 3 (some .int)]
def wsX11_done : List Cond := .code yX11_done cX11_done 2 (some .int) :: ((wsX11_done_r1 ++ (wsX11_done_r2 ++ wsX11_done_r3)) ++ wsX110)
def wsX11_place_r1 : List Cond := [Cond.fieldLink RX11 13 "WovenRowsModel" "now" "[I", Cond.methodLink RX11 65 yX11_isRow, Cond.static yX11_isRow, Cond.initialized RX11, Cond.code yX11_isRow cX11_isRow 1 (some .boolean), Cond.methodLink RX11 57 yX11_in, Cond.static yX11_in, Cond.code yX11_in cX11_in 3 (some .boolean), Cond.methodLink RX11 108 yX11_barOfDays, Cond.instanceMethod yX11_barOfDays, Cond.selects RX11 yX11_barOfDays yX11_barOfDays, Cond.code yX11_barOfDays cX11_barOfDays 1 (some .int), Cond.methodLink RX11 75 yX11_faultOf, Cond.instanceMethod yX11_faultOf, Cond.selects RX11 yX11_faultOf yX11_faultOf, Cond.code yX11_faultOf cX11_faultOf 5 (some .int), Cond.fieldLink RX11 68 "WovenRowsModel" "signs" "I", Cond.fieldLink RX11 37 "WovenRowsModel" "pad" "[I", Cond.methodLink RX11 72 yX11_isLetter, Cond.static yX11_isLetter, Cond.code yX11_isLetter cX11_isLetter 1 (some .boolean), Cond.methodLink RX11 105 yX11_goDays, Cond.instanceMethod yX11_goDays, Cond.selects RX11 yX11_goDays yX11_goDays]
def wsX11_place_r2 : List Cond := [Cond.code yX11_goDays cX11_goDays 4 (some .int), Cond.fieldLink RX11 86 "WovenRowsModel" "acts" "I", Cond.fieldLink RX11 92 "WovenRowsModel" "reason" "I", Cond.methodLink RX11 83 yX11_asNow, Cond.instanceMethod yX11_asNow, Cond.selects RX11 yX11_asNow yX11_asNow, Cond.code yX11_asNow cX11_asNow 2 none, Cond.fieldLink RX11 7 "WovenRowsModel" "book" "[I", Cond.methodLink RX11 89 yX11_ring, Cond.instanceMethod yX11_ring, Cond.selects RX11 yX11_ring yX11_ring, Cond.code yX11_ring cX11_ring 1 (some .int), Cond.methodLink RX11 95 yX11_change, Cond.instanceMethod yX11_change, Cond.selects RX11 yX11_change yX11_change, Cond.code yX11_change cX11_change 5 (some .int), Cond.methodLink RX11 79 yX11_spotOf, Cond.instanceMethod yX11_spotOf, Cond.selects RX11 yX11_spotOf yX11_spotOf, Cond.code yX11_spotOf cX11_spotOf 4 (some .int), Cond.methodLink RX11 99 yX11_goHome, Cond.instanceMethod yX11_goHome, Cond.selects RX11 yX11_goHome yX11_goHome, Cond.code yX11_goHome cX11_goHome 5 (some .int)]
def wsX11_place_r3 : List Cond := [Cond.methodLink RX11 102 yX11_join, Cond.instanceMethod yX11_join, Cond.selects RX11 yX11_join yX11_join, Cond.code yX11_join cX11_join 3 (some .int)]
def wsX11_place : List Cond := .code yX11_place cX11_place 3 (some .int) :: ((wsX11_place_r1 ++ (wsX11_place_r2 ++ wsX11_place_r3)) ++ wsX110)
def wsX11_of_r1 : List Cond := [Cond.methodLink RX11 61 yX11_isMember, Cond.static yX11_isMember, Cond.initialized RX11, Cond.code yX11_isMember cX11_isMember 1 (some .boolean), Cond.methodLink RX11 57 yX11_in, Cond.static yX11_in, Cond.code yX11_in cX11_in 3 (some .boolean), Cond.methodLink RX11 108 yX11_barOfDays, Cond.instanceMethod yX11_barOfDays, Cond.selects RX11 yX11_barOfDays yX11_barOfDays, Cond.code yX11_barOfDays cX11_barOfDays 1 (some .int), Cond.methodLink RX11 75 yX11_faultOf, Cond.instanceMethod yX11_faultOf, Cond.selects RX11 yX11_faultOf yX11_faultOf, Cond.code yX11_faultOf cX11_faultOf 5 (some .int), Cond.fieldLink RX11 68 "WovenRowsModel" "signs" "I", Cond.fieldLink RX11 37 "WovenRowsModel" "pad" "[I", Cond.methodLink RX11 72 yX11_isLetter, Cond.static yX11_isLetter, Cond.code yX11_isLetter cX11_isLetter 1 (some .boolean), Cond.methodLink RX11 105 yX11_goDays, Cond.instanceMethod yX11_goDays, Cond.selects RX11 yX11_goDays yX11_goDays, Cond.code yX11_goDays cX11_goDays 4 (some .int)]
def wsX11_of_r2 : List Cond := [Cond.fieldLink RX11 86 "WovenRowsModel" "acts" "I", Cond.fieldLink RX11 92 "WovenRowsModel" "reason" "I", Cond.methodLink RX11 83 yX11_asNow, Cond.instanceMethod yX11_asNow, Cond.selects RX11 yX11_asNow yX11_asNow, Cond.code yX11_asNow cX11_asNow 2 none, Cond.fieldLink RX11 13 "WovenRowsModel" "now" "[I", Cond.fieldLink RX11 7 "WovenRowsModel" "book" "[I", Cond.methodLink RX11 89 yX11_ring, Cond.instanceMethod yX11_ring, Cond.selects RX11 yX11_ring yX11_ring, Cond.code yX11_ring cX11_ring 1 (some .int), Cond.methodLink RX11 95 yX11_change, Cond.instanceMethod yX11_change, Cond.selects RX11 yX11_change yX11_change, Cond.code yX11_change cX11_change 5 (some .int), Cond.methodLink RX11 79 yX11_spotOf, Cond.instanceMethod yX11_spotOf, Cond.selects RX11 yX11_spotOf yX11_spotOf, Cond.code yX11_spotOf cX11_spotOf 4 (some .int), Cond.methodLink RX11 99 yX11_goHome, Cond.instanceMethod yX11_goHome, Cond.selects RX11 yX11_goHome yX11_goHome, Cond.code yX11_goHome cX11_goHome 5 (some .int)]
def wsX11_of_r3 : List Cond := [Cond.methodLink RX11 102 yX11_join, Cond.instanceMethod yX11_join, Cond.selects RX11 yX11_join yX11_join, Cond.code yX11_join cX11_join 3 (some .int)]
def wsX11_of : List Cond := .code yX11_of cX11_of 4 (some .int) :: ((wsX11_of_r1 ++ (wsX11_of_r2 ++ wsX11_of_r3)) ++ wsX110)
def wsX11_bells_r1 : List Cond := [Cond.fieldLink RX11 13 "WovenRowsModel" "now" "[I", Cond.methodLink RX11 108 yX11_barOfDays, Cond.instanceMethod yX11_barOfDays, Cond.selects RX11 yX11_barOfDays yX11_barOfDays, Cond.initialized RX11, Cond.code yX11_barOfDays cX11_barOfDays 1 (some .int), Cond.methodLink RX11 75 yX11_faultOf, Cond.instanceMethod yX11_faultOf, Cond.selects RX11 yX11_faultOf yX11_faultOf, Cond.code yX11_faultOf cX11_faultOf 5 (some .int), Cond.fieldLink RX11 68 "WovenRowsModel" "signs" "I", Cond.fieldLink RX11 37 "WovenRowsModel" "pad" "[I", Cond.methodLink RX11 72 yX11_isLetter, Cond.static yX11_isLetter, Cond.code yX11_isLetter cX11_isLetter 1 (some .boolean), Cond.methodLink RX11 57 yX11_in, Cond.static yX11_in, Cond.code yX11_in cX11_in 3 (some .boolean), Cond.methodLink RX11 105 yX11_goDays, Cond.instanceMethod yX11_goDays, Cond.selects RX11 yX11_goDays yX11_goDays, Cond.code yX11_goDays cX11_goDays 4 (some .int), Cond.fieldLink RX11 86 "WovenRowsModel" "acts" "I", Cond.fieldLink RX11 92 "WovenRowsModel" "reason" "I"]
def wsX11_bells_r2 : List Cond := [Cond.methodLink RX11 83 yX11_asNow, Cond.instanceMethod yX11_asNow, Cond.selects RX11 yX11_asNow yX11_asNow, Cond.code yX11_asNow cX11_asNow 2 none, Cond.fieldLink RX11 7 "WovenRowsModel" "book" "[I", Cond.methodLink RX11 89 yX11_ring, Cond.instanceMethod yX11_ring, Cond.selects RX11 yX11_ring yX11_ring, Cond.code yX11_ring cX11_ring 1 (some .int), Cond.methodLink RX11 95 yX11_change, Cond.instanceMethod yX11_change, Cond.selects RX11 yX11_change yX11_change, Cond.code yX11_change cX11_change 5 (some .int), Cond.methodLink RX11 79 yX11_spotOf, Cond.instanceMethod yX11_spotOf, Cond.selects RX11 yX11_spotOf yX11_spotOf, Cond.code yX11_spotOf cX11_spotOf 4 (some .int), Cond.methodLink RX11 99 yX11_goHome, Cond.instanceMethod yX11_goHome, Cond.selects RX11 yX11_goHome yX11_goHome, Cond.code yX11_goHome cX11_goHome 5 (some .int), Cond.methodLink RX11 102 yX11_join, Cond.instanceMethod yX11_join, Cond.selects RX11 yX11_join yX11_join]
def wsX11_bells_r3 : List Cond := [Cond.code yX11_join cX11_join 3 (some .int)]
def wsX11_bells : List Cond := .code yX11_bells cX11_bells 1 (some .int) :: ((wsX11_bells_r1 ++ (wsX11_bells_r2 ++ wsX11_bells_r3)) ++ wsX110)
def wsX11_widthOf : List Cond := .code yX11_widthOf cX11_widthOf 2 (some .int) :: ([.fieldLink RX11 22 "WovenRowsModel" "wide" "[I", .fieldLink RX11 111 "WovenRowsModel" "door" "I", .fieldLink RX11 114 "WovenRowsModel" "wider" "I"] ++ wsX110)
def wsX11_spot : List Cond := .code yX11_spot cX11_spot 3 (some .int) :: ([.fieldLink RX11 25 "WovenRowsModel" "delay" "[I"] ++ wsX110)
def wsX11_doClear : List Cond := .code yX11_doClear cX11_doClear 5 (some .boolean) :: ([.fieldLink RX11 16 "WovenRowsModel" "width" "[I", .fieldLink RX11 13 "WovenRowsModel" "now" "[I", .methodLink RX11 117 yX11_spot, .instanceMethod yX11_spot, .selects RX11 yX11_spot yX11_spot, .initialized RX11, .code yX11_spot cX11_spot 3 (some .int), .fieldLink RX11 25 "WovenRowsModel" "delay" "[I", .methodLink RX11 120 yX11_widthOf, .instanceMethod yX11_widthOf, .selects RX11 yX11_widthOf yX11_widthOf, .code yX11_widthOf cX11_widthOf 2 (some .int), .fieldLink RX11 22 "WovenRowsModel" "wide" "[I", .fieldLink RX11 111 "WovenRowsModel" "door" "I", .fieldLink RX11 114 "WovenRowsModel" "wider" "I"] ++ wsX110)
def wsX11_layMeetings_r1 : List Cond := [Cond.fieldLink RX11 123 "WovenRowsModel" "meetings" "I", Cond.fieldLink RX11 126 "WovenRowsModel" "clashes" "I", Cond.fieldLink RX11 129 "WovenRowsModel" "first" "I", Cond.fieldLink RX11 132 "WovenRowsModel" "where" "I", Cond.fieldLink RX11 13 "WovenRowsModel" "now" "[I", Cond.methodLink RX11 57 yX11_in, Cond.static yX11_in, Cond.initialized RX11, Cond.code yX11_in cX11_in 3 (some .boolean), Cond.methodLink RX11 117 yX11_spot, Cond.instanceMethod yX11_spot, Cond.selects RX11 yX11_spot yX11_spot, Cond.code yX11_spot cX11_spot 3 (some .int), Cond.fieldLink RX11 25 "WovenRowsModel" "delay" "[I", Cond.methodLink RX11 135 yX11_doClear, Cond.instanceMethod yX11_doClear, Cond.selects RX11 yX11_doClear yX11_doClear, Cond.code yX11_doClear cX11_doClear 5 (some .boolean), Cond.fieldLink RX11 16 "WovenRowsModel" "width" "[I", Cond.methodLink RX11 120 yX11_widthOf, Cond.instanceMethod yX11_widthOf, Cond.selects RX11 yX11_widthOf yX11_widthOf, Cond.code yX11_widthOf cX11_widthOf 2 (some .int), Cond.fieldLink RX11 22 "WovenRowsModel" "wide" "[I"]
def wsX11_layMeetings_r2 : List Cond := [Cond.fieldLink RX11 111 "WovenRowsModel" "door" "I", Cond.fieldLink RX11 114 "WovenRowsModel" "wider" "I"]
def wsX11_layMeetings : List Cond := .code yX11_layMeetings cX11_layMeetings 4 none :: ((wsX11_layMeetings_r1 ++ wsX11_layMeetings_r2) ++ wsX110)
def wsX11_plain : List Cond := .code yX11_plain cX11_plain 1 none :: ([.fieldLink RX11 111 "WovenRowsModel" "door" "I", .fieldLink RX11 114 "WovenRowsModel" "wider" "I", .methodLink RX11 83 yX11_asNow, .instanceMethod yX11_asNow, .selects RX11 yX11_asNow yX11_asNow, .initialized RX11, .code yX11_asNow cX11_asNow 2 none, .fieldLink RX11 13 "WovenRowsModel" "now" "[I", .fieldLink RX11 7 "WovenRowsModel" "book" "[I"] ++ wsX110)
def wsX11_meets_r1 : List Cond := [Cond.fieldLink RX11 123 "WovenRowsModel" "meetings" "I", Cond.fieldLink RX11 126 "WovenRowsModel" "clashes" "I", Cond.fieldLink RX11 129 "WovenRowsModel" "first" "I", Cond.fieldLink RX11 132 "WovenRowsModel" "where" "I", Cond.methodLink RX11 57 yX11_in, Cond.static yX11_in, Cond.initialized RX11, Cond.code yX11_in cX11_in 3 (some .boolean), Cond.methodLink RX11 139 yX11_plain, Cond.instanceMethod yX11_plain, Cond.selects RX11 yX11_plain yX11_plain, Cond.code yX11_plain cX11_plain 1 none, Cond.fieldLink RX11 111 "WovenRowsModel" "door" "I", Cond.fieldLink RX11 114 "WovenRowsModel" "wider" "I", Cond.methodLink RX11 83 yX11_asNow, Cond.instanceMethod yX11_asNow, Cond.selects RX11 yX11_asNow yX11_asNow, Cond.code yX11_asNow cX11_asNow 2 none, Cond.fieldLink RX11 13 "WovenRowsModel" "now" "[I", Cond.fieldLink RX11 7 "WovenRowsModel" "book" "[I", Cond.methodLink RX11 142 yX11_layMeetings, Cond.instanceMethod yX11_layMeetings, Cond.selects RX11 yX11_layMeetings yX11_layMeetings, Cond.code yX11_layMeetings cX11_layMeetings 4 none]
def wsX11_meets_r2 : List Cond := [Cond.methodLink RX11 117 yX11_spot, Cond.instanceMethod yX11_spot, Cond.selects RX11 yX11_spot yX11_spot, Cond.code yX11_spot cX11_spot 3 (some .int), Cond.fieldLink RX11 25 "WovenRowsModel" "delay" "[I", Cond.methodLink RX11 135 yX11_doClear, Cond.instanceMethod yX11_doClear, Cond.selects RX11 yX11_doClear yX11_doClear, Cond.code yX11_doClear cX11_doClear 5 (some .boolean), Cond.fieldLink RX11 16 "WovenRowsModel" "width" "[I", Cond.methodLink RX11 120 yX11_widthOf, Cond.instanceMethod yX11_widthOf, Cond.selects RX11 yX11_widthOf yX11_widthOf, Cond.code yX11_widthOf cX11_widthOf 2 (some .int), Cond.fieldLink RX11 22 "WovenRowsModel" "wide" "[I"]
def wsX11_meets : List Cond := .code yX11_meets cX11_meets 2 (some .int) :: ((wsX11_meets_r1 ++ wsX11_meets_r2) ++ wsX110)
def wsX11_runs : List Cond := .code yX11_runs cX11_runs 4 (some .int) :: ([.fieldLink RX11 7 "WovenRowsModel" "book" "[I", .fieldLink RX11 25 "WovenRowsModel" "delay" "[I"] ++ wsX110)
def wsX11_keepsRules : List Cond := .code yX11_keepsRules cX11_keepsRules 6 (some .boolean) :: ([.fieldLink RX11 145 "WovenRowsModel" "rules" "I", .fieldLink RX11 28 "WovenRowsModel" "ahead" "[I", .fieldLink RX11 31 "WovenRowsModel" "after" "[I", .methodLink RX11 79 yX11_spotOf, .instanceMethod yX11_spotOf, .selects RX11 yX11_spotOf yX11_spotOf, .initialized RX11, .code yX11_spotOf cX11_spotOf 4 (some .int), .fieldLink RX11 13 "WovenRowsModel" "now" "[I"] ++ wsX110)
def wsX11_layRow : List Cond := .code yX11_layRow cX11_layRow 8 (some .int) :: ([.fieldLink RX11 7 "WovenRowsModel" "book" "[I", .fieldLink RX11 13 "WovenRowsModel" "now" "[I", .methodLink RX11 148 yX11_bits, .static yX11_bits, .initialized RX11, .code yX11_bits cX11_bits 3 (some .int)] ++ wsX110)
def wsX11_layOrders_r1 : List Cond := [Cond.fieldLink RX11 151 "WovenRowsModel" "ordersFound" "I", Cond.fieldLink RX11 154 "WovenRowsModel" "firstOrder" "I", Cond.constant RX11 157 (1000000), Cond.fieldLink RX11 158 "WovenRowsModel" "least" "I", Cond.fieldLink RX11 161 "WovenRowsModel" "leastOrder" "I", Cond.fieldLink RX11 7 "WovenRowsModel" "book" "[I", Cond.fieldLink RX11 126 "WovenRowsModel" "clashes" "I", Cond.methodLink RX11 139 yX11_plain, Cond.instanceMethod yX11_plain, Cond.selects RX11 yX11_plain yX11_plain, Cond.initialized RX11, Cond.code yX11_plain cX11_plain 1 none, Cond.fieldLink RX11 111 "WovenRowsModel" "door" "I", Cond.fieldLink RX11 114 "WovenRowsModel" "wider" "I", Cond.methodLink RX11 83 yX11_asNow, Cond.instanceMethod yX11_asNow, Cond.selects RX11 yX11_asNow yX11_asNow, Cond.code yX11_asNow cX11_asNow 2 none, Cond.fieldLink RX11 13 "WovenRowsModel" "now" "[I", Cond.methodLink RX11 164 yX11_layRow, Cond.instanceMethod yX11_layRow, Cond.selects RX11 yX11_layRow yX11_layRow, Cond.code yX11_layRow cX11_layRow 8 (some .int), Cond.methodLink RX11 148 yX11_bits]
def wsX11_layOrders_r2 : List Cond := [Cond.static yX11_bits, Cond.code yX11_bits cX11_bits 3 (some .int), Cond.methodLink RX11 167 yX11_keepsRules, Cond.instanceMethod yX11_keepsRules, Cond.selects RX11 yX11_keepsRules yX11_keepsRules, Cond.code yX11_keepsRules cX11_keepsRules 6 (some .boolean), Cond.fieldLink RX11 145 "WovenRowsModel" "rules" "I", Cond.fieldLink RX11 28 "WovenRowsModel" "ahead" "[I", Cond.fieldLink RX11 31 "WovenRowsModel" "after" "[I", Cond.methodLink RX11 79 yX11_spotOf, Cond.instanceMethod yX11_spotOf, Cond.selects RX11 yX11_spotOf yX11_spotOf, Cond.code yX11_spotOf cX11_spotOf 4 (some .int), Cond.methodLink RX11 142 yX11_layMeetings, Cond.instanceMethod yX11_layMeetings, Cond.selects RX11 yX11_layMeetings yX11_layMeetings, Cond.code yX11_layMeetings cX11_layMeetings 4 none, Cond.fieldLink RX11 123 "WovenRowsModel" "meetings" "I", Cond.fieldLink RX11 129 "WovenRowsModel" "first" "I", Cond.fieldLink RX11 132 "WovenRowsModel" "where" "I", Cond.methodLink RX11 57 yX11_in, Cond.static yX11_in, Cond.code yX11_in cX11_in 3 (some .boolean), Cond.methodLink RX11 117 yX11_spot]
def wsX11_layOrders_r3 : List Cond := [Cond.instanceMethod yX11_spot, Cond.selects RX11 yX11_spot yX11_spot, Cond.code yX11_spot cX11_spot 3 (some .int), Cond.fieldLink RX11 25 "WovenRowsModel" "delay" "[I", Cond.methodLink RX11 135 yX11_doClear, Cond.instanceMethod yX11_doClear, Cond.selects RX11 yX11_doClear yX11_doClear, Cond.code yX11_doClear cX11_doClear 5 (some .boolean), Cond.fieldLink RX11 16 "WovenRowsModel" "width" "[I", Cond.methodLink RX11 120 yX11_widthOf, Cond.instanceMethod yX11_widthOf, Cond.selects RX11 yX11_widthOf yX11_widthOf, Cond.code yX11_widthOf cX11_widthOf 2 (some .int), Cond.fieldLink RX11 22 "WovenRowsModel" "wide" "[I"]
def wsX11_layOrders : List Cond := .code yX11_layOrders cX11_layOrders 6 none :: ((wsX11_layOrders_r1 ++ (wsX11_layOrders_r2 ++ wsX11_layOrders_r3)) ++ wsX110)
def wsX11_order_r1 : List Cond := [Cond.fieldLink RX11 158 "WovenRowsModel" "least" "I", Cond.fieldLink RX11 161 "WovenRowsModel" "leastOrder" "I", Cond.methodLink RX11 65 yX11_isRow, Cond.static yX11_isRow, Cond.initialized RX11, Cond.code yX11_isRow cX11_isRow 1 (some .boolean), Cond.methodLink RX11 57 yX11_in, Cond.static yX11_in, Cond.code yX11_in cX11_in 3 (some .boolean), Cond.methodLink RX11 170 yX11_layOrders, Cond.instanceMethod yX11_layOrders, Cond.selects RX11 yX11_layOrders yX11_layOrders, Cond.code yX11_layOrders cX11_layOrders 6 none, Cond.fieldLink RX11 151 "WovenRowsModel" "ordersFound" "I", Cond.fieldLink RX11 154 "WovenRowsModel" "firstOrder" "I", Cond.constant RX11 157 (1000000), Cond.fieldLink RX11 7 "WovenRowsModel" "book" "[I", Cond.fieldLink RX11 126 "WovenRowsModel" "clashes" "I", Cond.methodLink RX11 139 yX11_plain, Cond.instanceMethod yX11_plain, Cond.selects RX11 yX11_plain yX11_plain, Cond.code yX11_plain cX11_plain 1 none, Cond.fieldLink RX11 111 "WovenRowsModel" "door" "I", Cond.fieldLink RX11 114 "WovenRowsModel" "wider" "I"]
def wsX11_order_r2 : List Cond := [Cond.methodLink RX11 83 yX11_asNow, Cond.instanceMethod yX11_asNow, Cond.selects RX11 yX11_asNow yX11_asNow, Cond.code yX11_asNow cX11_asNow 2 none, Cond.fieldLink RX11 13 "WovenRowsModel" "now" "[I", Cond.methodLink RX11 164 yX11_layRow, Cond.instanceMethod yX11_layRow, Cond.selects RX11 yX11_layRow yX11_layRow, Cond.code yX11_layRow cX11_layRow 8 (some .int), Cond.methodLink RX11 148 yX11_bits, Cond.static yX11_bits, Cond.code yX11_bits cX11_bits 3 (some .int), Cond.methodLink RX11 167 yX11_keepsRules, Cond.instanceMethod yX11_keepsRules, Cond.selects RX11 yX11_keepsRules yX11_keepsRules, Cond.code yX11_keepsRules cX11_keepsRules 6 (some .boolean), Cond.fieldLink RX11 145 "WovenRowsModel" "rules" "I", Cond.fieldLink RX11 28 "WovenRowsModel" "ahead" "[I", Cond.fieldLink RX11 31 "WovenRowsModel" "after" "[I", Cond.methodLink RX11 79 yX11_spotOf, Cond.instanceMethod yX11_spotOf, Cond.selects RX11 yX11_spotOf yX11_spotOf, Cond.code yX11_spotOf cX11_spotOf 4 (some .int), Cond.methodLink RX11 142 yX11_layMeetings]
def wsX11_order_r3 : List Cond := [Cond.instanceMethod yX11_layMeetings, Cond.selects RX11 yX11_layMeetings yX11_layMeetings, Cond.code yX11_layMeetings cX11_layMeetings 4 none, Cond.fieldLink RX11 123 "WovenRowsModel" "meetings" "I", Cond.fieldLink RX11 129 "WovenRowsModel" "first" "I", Cond.fieldLink RX11 132 "WovenRowsModel" "where" "I", Cond.methodLink RX11 117 yX11_spot, Cond.instanceMethod yX11_spot, Cond.selects RX11 yX11_spot yX11_spot, Cond.code yX11_spot cX11_spot 3 (some .int), Cond.fieldLink RX11 25 "WovenRowsModel" "delay" "[I", Cond.methodLink RX11 135 yX11_doClear, Cond.instanceMethod yX11_doClear, Cond.selects RX11 yX11_doClear yX11_doClear, Cond.code yX11_doClear cX11_doClear 5 (some .boolean), Cond.fieldLink RX11 16 "WovenRowsModel" "width" "[I", Cond.methodLink RX11 120 yX11_widthOf, Cond.instanceMethod yX11_widthOf, Cond.selects RX11 yX11_widthOf yX11_widthOf, Cond.code yX11_widthOf cX11_widthOf 2 (some .int), Cond.fieldLink RX11 22 "WovenRowsModel" "wide" "[I"]
def wsX11_order : List Cond := .code yX11_order cX11_order 3 (some .int) :: ((wsX11_order_r1 ++ (wsX11_order_r2 ++ wsX11_order_r3)) ++ wsX110)
def wsX11_start_r1 : List Cond := [Cond.fieldLink RX11 25 "WovenRowsModel" "delay" "[I", Cond.constant RX11 157 (1000000), Cond.fieldLink RX11 126 "WovenRowsModel" "clashes" "I", Cond.methodLink RX11 57 yX11_in, Cond.static yX11_in, Cond.initialized RX11, Cond.code yX11_in cX11_in 3 (some .boolean), Cond.methodLink RX11 139 yX11_plain, Cond.instanceMethod yX11_plain, Cond.selects RX11 yX11_plain yX11_plain, Cond.code yX11_plain cX11_plain 1 none, Cond.fieldLink RX11 111 "WovenRowsModel" "door" "I", Cond.fieldLink RX11 114 "WovenRowsModel" "wider" "I", Cond.methodLink RX11 83 yX11_asNow, Cond.instanceMethod yX11_asNow, Cond.selects RX11 yX11_asNow yX11_asNow, Cond.code yX11_asNow cX11_asNow 2 none, Cond.fieldLink RX11 13 "WovenRowsModel" "now" "[I", Cond.fieldLink RX11 7 "WovenRowsModel" "book" "[I", Cond.methodLink RX11 142 yX11_layMeetings, Cond.instanceMethod yX11_layMeetings, Cond.selects RX11 yX11_layMeetings yX11_layMeetings, Cond.code yX11_layMeetings cX11_layMeetings 4 none, Cond.fieldLink RX11 123 "WovenRowsModel" "meetings" "I"]
def wsX11_start_r2 : List Cond := [Cond.fieldLink RX11 129 "WovenRowsModel" "first" "I", Cond.fieldLink RX11 132 "WovenRowsModel" "where" "I", Cond.methodLink RX11 117 yX11_spot, Cond.instanceMethod yX11_spot, Cond.selects RX11 yX11_spot yX11_spot, Cond.code yX11_spot cX11_spot 3 (some .int), Cond.methodLink RX11 135 yX11_doClear, Cond.instanceMethod yX11_doClear, Cond.selects RX11 yX11_doClear yX11_doClear, Cond.code yX11_doClear cX11_doClear 5 (some .boolean), Cond.fieldLink RX11 16 "WovenRowsModel" "width" "[I", Cond.methodLink RX11 120 yX11_widthOf, Cond.instanceMethod yX11_widthOf, Cond.selects RX11 yX11_widthOf yX11_widthOf, Cond.code yX11_widthOf cX11_widthOf 2 (some .int), Cond.fieldLink RX11 22 "WovenRowsModel" "wide" "[I"]
def wsX11_start : List Cond := .code yX11_start cX11_start 6 (some .int) :: ((wsX11_start_r1 ++ wsX11_start_r2) ++ wsX110)
def wsX11_door_r1 : List Cond := [Cond.fieldLink RX11 114 "WovenRowsModel" "wider" "I", Cond.constant RX11 157 (1000000), Cond.fieldLink RX11 111 "WovenRowsModel" "door" "I", Cond.fieldLink RX11 126 "WovenRowsModel" "clashes" "I", Cond.methodLink RX11 57 yX11_in, Cond.static yX11_in, Cond.initialized RX11, Cond.code yX11_in cX11_in 3 (some .boolean), Cond.methodLink RX11 139 yX11_plain, Cond.instanceMethod yX11_plain, Cond.selects RX11 yX11_plain yX11_plain, Cond.code yX11_plain cX11_plain 1 none, Cond.methodLink RX11 83 yX11_asNow, Cond.instanceMethod yX11_asNow, Cond.selects RX11 yX11_asNow yX11_asNow, Cond.code yX11_asNow cX11_asNow 2 none, Cond.fieldLink RX11 13 "WovenRowsModel" "now" "[I", Cond.fieldLink RX11 7 "WovenRowsModel" "book" "[I", Cond.methodLink RX11 142 yX11_layMeetings, Cond.instanceMethod yX11_layMeetings, Cond.selects RX11 yX11_layMeetings yX11_layMeetings, Cond.code yX11_layMeetings cX11_layMeetings 4 none, Cond.fieldLink RX11 123 "WovenRowsModel" "meetings" "I", Cond.fieldLink RX11 129 "WovenRowsModel" "first" "I"]
def wsX11_door_r2 : List Cond := [Cond.fieldLink RX11 132 "WovenRowsModel" "where" "I", Cond.methodLink RX11 117 yX11_spot, Cond.instanceMethod yX11_spot, Cond.selects RX11 yX11_spot yX11_spot, Cond.code yX11_spot cX11_spot 3 (some .int), Cond.fieldLink RX11 25 "WovenRowsModel" "delay" "[I", Cond.methodLink RX11 135 yX11_doClear, Cond.instanceMethod yX11_doClear, Cond.selects RX11 yX11_doClear yX11_doClear, Cond.code yX11_doClear cX11_doClear 5 (some .boolean), Cond.fieldLink RX11 16 "WovenRowsModel" "width" "[I", Cond.methodLink RX11 120 yX11_widthOf, Cond.instanceMethod yX11_widthOf, Cond.selects RX11 yX11_widthOf yX11_widthOf, Cond.code yX11_widthOf cX11_widthOf 2 (some .int), Cond.fieldLink RX11 22 "WovenRowsModel" "wide" "[I"]
def wsX11_door : List Cond := .code yX11_door cX11_door 6 (some .int) :: ((wsX11_door_r1 ++ wsX11_door_r2) ++ wsX110)
def wsX11_grating : List Cond := .code yX11_grating cX11_grating 9 (some .int) :: ([.fieldLink RX11 13 "WovenRowsModel" "now" "[I", .fieldLink RX11 19 "WovenRowsModel" "key" "[I", .methodLink RX11 117 yX11_spot, .instanceMethod yX11_spot, .selects RX11 yX11_spot yX11_spot, .initialized RX11, .code yX11_spot cX11_spot 3 (some .int), .fieldLink RX11 25 "WovenRowsModel" "delay" "[I", .methodLink RX11 57 yX11_in, .static yX11_in, .code yX11_in cX11_in 3 (some .boolean)] ++ wsX110)
def wsX11_grate_r1 : List Cond := [Cond.methodLink RX11 57 yX11_in, Cond.static yX11_in, Cond.initialized RX11, Cond.code yX11_in cX11_in 3 (some .boolean), Cond.methodLink RX11 139 yX11_plain, Cond.instanceMethod yX11_plain, Cond.selects RX11 yX11_plain yX11_plain, Cond.code yX11_plain cX11_plain 1 none, Cond.fieldLink RX11 111 "WovenRowsModel" "door" "I", Cond.fieldLink RX11 114 "WovenRowsModel" "wider" "I", Cond.methodLink RX11 83 yX11_asNow, Cond.instanceMethod yX11_asNow, Cond.selects RX11 yX11_asNow yX11_asNow, Cond.code yX11_asNow cX11_asNow 2 none, Cond.fieldLink RX11 13 "WovenRowsModel" "now" "[I", Cond.fieldLink RX11 7 "WovenRowsModel" "book" "[I", Cond.methodLink RX11 174 yX11_grating, Cond.instanceMethod yX11_grating, Cond.selects RX11 yX11_grating yX11_grating, Cond.code yX11_grating cX11_grating 9 (some .int), Cond.fieldLink RX11 19 "WovenRowsModel" "key" "[I", Cond.methodLink RX11 117 yX11_spot, Cond.instanceMethod yX11_spot, Cond.selects RX11 yX11_spot yX11_spot]
def wsX11_grate_r2 : List Cond := [Cond.code yX11_spot cX11_spot 3 (some .int), Cond.fieldLink RX11 25 "WovenRowsModel" "delay" "[I"]
def wsX11_grate : List Cond := .code yX11_grate cX11_grate 4 (some .int) :: ((wsX11_grate_r1 ++ wsX11_grate_r2) ++ wsX110)
def wsX11_rule : List Cond := .code yX11_rule cX11_rule 3 (some .int) :: ([.fieldLink RX11 145 "WovenRowsModel" "rules" "I", .fieldLink RX11 28 "WovenRowsModel" "ahead" "[I", .fieldLink RX11 31 "WovenRowsModel" "after" "[I", .methodLink RX11 61 yX11_isMember, .static yX11_isMember, .initialized RX11, .code yX11_isMember cX11_isMember 1 (some .boolean), .methodLink RX11 57 yX11_in, .static yX11_in, .code yX11_in cX11_in 3 (some .boolean)] ++ wsX110)
def wsX11_unrule : List Cond := .code yX11_unrule cX11_unrule 2 (some .int) :: ([.fieldLink RX11 145 "WovenRowsModel" "rules" "I"] ++ wsX110)
def wsX11_orders_r1 : List Cond := [Cond.fieldLink RX11 151 "WovenRowsModel" "ordersFound" "I", Cond.fieldLink RX11 154 "WovenRowsModel" "firstOrder" "I", Cond.methodLink RX11 65 yX11_isRow, Cond.static yX11_isRow, Cond.initialized RX11, Cond.code yX11_isRow cX11_isRow 1 (some .boolean), Cond.methodLink RX11 57 yX11_in, Cond.static yX11_in, Cond.code yX11_in cX11_in 3 (some .boolean), Cond.methodLink RX11 170 yX11_layOrders, Cond.instanceMethod yX11_layOrders, Cond.selects RX11 yX11_layOrders yX11_layOrders, Cond.code yX11_layOrders cX11_layOrders 6 none, Cond.constant RX11 157 (1000000), Cond.fieldLink RX11 158 "WovenRowsModel" "least" "I", Cond.fieldLink RX11 161 "WovenRowsModel" "leastOrder" "I", Cond.fieldLink RX11 7 "WovenRowsModel" "book" "[I", Cond.fieldLink RX11 126 "WovenRowsModel" "clashes" "I", Cond.methodLink RX11 139 yX11_plain, Cond.instanceMethod yX11_plain, Cond.selects RX11 yX11_plain yX11_plain, Cond.code yX11_plain cX11_plain 1 none, Cond.fieldLink RX11 111 "WovenRowsModel" "door" "I", Cond.fieldLink RX11 114 "WovenRowsModel" "wider" "I"]
def wsX11_orders_r2 : List Cond := [Cond.methodLink RX11 83 yX11_asNow, Cond.instanceMethod yX11_asNow, Cond.selects RX11 yX11_asNow yX11_asNow, Cond.code yX11_asNow cX11_asNow 2 none, Cond.fieldLink RX11 13 "WovenRowsModel" "now" "[I", Cond.methodLink RX11 164 yX11_layRow, Cond.instanceMethod yX11_layRow, Cond.selects RX11 yX11_layRow yX11_layRow, Cond.code yX11_layRow cX11_layRow 8 (some .int), Cond.methodLink RX11 148 yX11_bits, Cond.static yX11_bits, Cond.code yX11_bits cX11_bits 3 (some .int), Cond.methodLink RX11 167 yX11_keepsRules, Cond.instanceMethod yX11_keepsRules, Cond.selects RX11 yX11_keepsRules yX11_keepsRules, Cond.code yX11_keepsRules cX11_keepsRules 6 (some .boolean), Cond.fieldLink RX11 145 "WovenRowsModel" "rules" "I", Cond.fieldLink RX11 28 "WovenRowsModel" "ahead" "[I", Cond.fieldLink RX11 31 "WovenRowsModel" "after" "[I", Cond.methodLink RX11 79 yX11_spotOf, Cond.instanceMethod yX11_spotOf, Cond.selects RX11 yX11_spotOf yX11_spotOf, Cond.code yX11_spotOf cX11_spotOf 4 (some .int), Cond.methodLink RX11 142 yX11_layMeetings]
def wsX11_orders_r3 : List Cond := [Cond.instanceMethod yX11_layMeetings, Cond.selects RX11 yX11_layMeetings yX11_layMeetings, Cond.code yX11_layMeetings cX11_layMeetings 4 none, Cond.fieldLink RX11 123 "WovenRowsModel" "meetings" "I", Cond.fieldLink RX11 129 "WovenRowsModel" "first" "I", Cond.fieldLink RX11 132 "WovenRowsModel" "where" "I", Cond.methodLink RX11 117 yX11_spot, Cond.instanceMethod yX11_spot, Cond.selects RX11 yX11_spot yX11_spot, Cond.code yX11_spot cX11_spot 3 (some .int), Cond.fieldLink RX11 25 "WovenRowsModel" "delay" "[I", Cond.methodLink RX11 135 yX11_doClear, Cond.instanceMethod yX11_doClear, Cond.selects RX11 yX11_doClear yX11_doClear, Cond.code yX11_doClear cX11_doClear 5 (some .boolean), Cond.fieldLink RX11 16 "WovenRowsModel" "width" "[I", Cond.methodLink RX11 120 yX11_widthOf, Cond.instanceMethod yX11_widthOf, Cond.selects RX11 yX11_widthOf yX11_widthOf, Cond.code yX11_widthOf cX11_widthOf 2 (some .int), Cond.fieldLink RX11 22 "WovenRowsModel" "wide" "[I"]
def wsX11_orders : List Cond := .code yX11_orders cX11_orders 3 (some .int) :: ((wsX11_orders_r1 ++ (wsX11_orders_r2 ++ wsX11_orders_r3)) ++ wsX110)
def wsX11_seen : List Cond := .code yX11_seen cX11_seen 3 (some .int) :: ([.fieldLink RX11 177 "WovenRowsModel" "sights" "I", .fieldLink RX11 34 "WovenRowsModel" "sight" "[I", .methodLink RX11 57 yX11_in, .static yX11_in, .initialized RX11, .code yX11_in cX11_in 3 (some .boolean)] ++ wsX110)
def wsX11_forget : List Cond := .code yX11_forget cX11_forget 2 (some .int) :: ([.fieldLink RX11 177 "WovenRowsModel" "sights" "I"] ++ wsX110)
def wsX11_cellOf : List Cond := .code yX11_cellOf cX11_cellOf 5 (some .int) :: ([.fieldLink RX11 25 "WovenRowsModel" "delay" "[I", .methodLink RX11 57 yX11_in, .static yX11_in, .initialized RX11, .code yX11_in cX11_in 3 (some .boolean)] ++ wsX110)
def wsX11_fits : List Cond := .code yX11_fits cX11_fits 5 (some .boolean) :: ([.fieldLink RX11 7 "WovenRowsModel" "book" "[I", .fieldLink RX11 177 "WovenRowsModel" "sights" "I", .fieldLink RX11 34 "WovenRowsModel" "sight" "[I", .methodLink RX11 180 yX11_cellOf, .instanceMethod yX11_cellOf, .selects RX11 yX11_cellOf yX11_cellOf, .initialized RX11, .code yX11_cellOf cX11_cellOf 5 (some .int), .fieldLink RX11 25 "WovenRowsModel" "delay" "[I", .methodLink RX11 57 yX11_in, .static yX11_in, .code yX11_in cX11_in 3 (some .boolean)] ++ wsX110)
def wsX11_who : List Cond := .code yX11_who cX11_who 7 (some .int) :: ([.fieldLink RX11 7 "WovenRowsModel" "book" "[I", .methodLink RX11 57 yX11_in, .static yX11_in, .initialized RX11, .code yX11_in cX11_in 3 (some .boolean), .methodLink RX11 184 yX11_fits, .instanceMethod yX11_fits, .selects RX11 yX11_fits yX11_fits, .code yX11_fits cX11_fits 5 (some .boolean), .fieldLink RX11 177 "WovenRowsModel" "sights" "I", .fieldLink RX11 34 "WovenRowsModel" "sight" "[I", .methodLink RX11 180 yX11_cellOf, .instanceMethod yX11_cellOf, .selects RX11 yX11_cellOf yX11_cellOf, .code yX11_cellOf cX11_cellOf 5 (some .int), .fieldLink RX11 25 "WovenRowsModel" "delay" "[I"] ++ wsX110)
def wsX11_look : List Cond := .code yX11_look cX11_look 8 (some .int) :: ([.fieldLink RX11 43 "WovenRowsModel" "isOne" "[Z", .constant RX11 157 (1000000), .fieldLink RX11 40 "WovenRowsModel" "counts" "[I", .methodLink RX11 57 yX11_in, .static yX11_in, .initialized RX11, .code yX11_in cX11_in 3 (some .boolean), .methodLink RX11 184 yX11_fits, .instanceMethod yX11_fits, .selects RX11 yX11_fits yX11_fits, .code yX11_fits cX11_fits 5 (some .boolean), .fieldLink RX11 7 "WovenRowsModel" "book" "[I", .fieldLink RX11 177 "WovenRowsModel" "sights" "I", .fieldLink RX11 34 "WovenRowsModel" "sight" "[I", .methodLink RX11 180 yX11_cellOf, .instanceMethod yX11_cellOf, .selects RX11 yX11_cellOf yX11_cellOf, .code yX11_cellOf cX11_cellOf 5 (some .int), .fieldLink RX11 25 "WovenRowsModel" "delay" "[I"] ++ wsX110)
def wsX11_chance_r1 : List Cond := [Cond.constantLong RX11 187 (-1000000000000000002), Cond.fieldLink RX11 126 "WovenRowsModel" "clashes" "I", Cond.constantLong RX11 189 (-1000000000000000003), Cond.fieldLink RX11 47 "WovenRowsModel" "ways" "[J", Cond.constantLong RX11 191 (10), Cond.methodLink RX11 57 yX11_in, Cond.static yX11_in, Cond.initialized RX11, Cond.code yX11_in cX11_in 3 (some .boolean), Cond.methodLink RX11 139 yX11_plain, Cond.instanceMethod yX11_plain, Cond.selects RX11 yX11_plain yX11_plain, Cond.code yX11_plain cX11_plain 1 none, Cond.fieldLink RX11 111 "WovenRowsModel" "door" "I", Cond.fieldLink RX11 114 "WovenRowsModel" "wider" "I", Cond.methodLink RX11 83 yX11_asNow, Cond.instanceMethod yX11_asNow, Cond.selects RX11 yX11_asNow yX11_asNow, Cond.code yX11_asNow cX11_asNow 2 none, Cond.fieldLink RX11 13 "WovenRowsModel" "now" "[I", Cond.fieldLink RX11 7 "WovenRowsModel" "book" "[I", Cond.methodLink RX11 142 yX11_layMeetings, Cond.instanceMethod yX11_layMeetings, Cond.selects RX11 yX11_layMeetings yX11_layMeetings]
def wsX11_chance_r2 : List Cond := [Cond.code yX11_layMeetings cX11_layMeetings 4 none, Cond.fieldLink RX11 123 "WovenRowsModel" "meetings" "I", Cond.fieldLink RX11 129 "WovenRowsModel" "first" "I", Cond.fieldLink RX11 132 "WovenRowsModel" "where" "I", Cond.methodLink RX11 117 yX11_spot, Cond.instanceMethod yX11_spot, Cond.selects RX11 yX11_spot yX11_spot, Cond.code yX11_spot cX11_spot 3 (some .int), Cond.fieldLink RX11 25 "WovenRowsModel" "delay" "[I", Cond.methodLink RX11 135 yX11_doClear, Cond.instanceMethod yX11_doClear, Cond.selects RX11 yX11_doClear yX11_doClear, Cond.code yX11_doClear cX11_doClear 5 (some .boolean), Cond.fieldLink RX11 16 "WovenRowsModel" "width" "[I", Cond.methodLink RX11 120 yX11_widthOf, Cond.instanceMethod yX11_widthOf, Cond.selects RX11 yX11_widthOf yX11_widthOf, Cond.code yX11_widthOf cX11_widthOf 2 (some .int), Cond.fieldLink RX11 22 "WovenRowsModel" "wide" "[I"]
def wsX11_chance : List Cond := .code yX11_chance cX11_chance 14 (some .long) :: ((wsX11_chance_r1 ++ wsX11_chance_r2) ++ wsX110)
def wsX11_year_r1 : List Cond := [Cond.constant RX11 193 (65537), Cond.fieldLink RX11 13 "WovenRowsModel" "now" "[I", Cond.fieldLink RX11 126 "WovenRowsModel" "clashes" "I", Cond.methodLink RX11 57 yX11_in, Cond.static yX11_in, Cond.initialized RX11, Cond.code yX11_in cX11_in 3 (some .boolean), Cond.methodLink RX11 139 yX11_plain, Cond.instanceMethod yX11_plain, Cond.selects RX11 yX11_plain yX11_plain, Cond.code yX11_plain cX11_plain 1 none, Cond.fieldLink RX11 111 "WovenRowsModel" "door" "I", Cond.fieldLink RX11 114 "WovenRowsModel" "wider" "I", Cond.methodLink RX11 83 yX11_asNow, Cond.instanceMethod yX11_asNow, Cond.selects RX11 yX11_asNow yX11_asNow, Cond.code yX11_asNow cX11_asNow 2 none, Cond.fieldLink RX11 7 "WovenRowsModel" "book" "[I", Cond.methodLink RX11 102 yX11_join, Cond.instanceMethod yX11_join, Cond.selects RX11 yX11_join yX11_join, Cond.code yX11_join cX11_join 3 (some .int), Cond.methodLink RX11 79 yX11_spotOf, Cond.instanceMethod yX11_spotOf]
def wsX11_year_r2 : List Cond := [Cond.selects RX11 yX11_spotOf yX11_spotOf, Cond.code yX11_spotOf cX11_spotOf 4 (some .int), Cond.methodLink RX11 99 yX11_goHome, Cond.instanceMethod yX11_goHome, Cond.selects RX11 yX11_goHome yX11_goHome, Cond.code yX11_goHome cX11_goHome 5 (some .int), Cond.methodLink RX11 95 yX11_change, Cond.instanceMethod yX11_change, Cond.selects RX11 yX11_change yX11_change, Cond.code yX11_change cX11_change 5 (some .int), Cond.methodLink RX11 89 yX11_ring, Cond.instanceMethod yX11_ring, Cond.selects RX11 yX11_ring yX11_ring, Cond.code yX11_ring cX11_ring 1 (some .int), Cond.methodLink RX11 142 yX11_layMeetings, Cond.instanceMethod yX11_layMeetings, Cond.selects RX11 yX11_layMeetings yX11_layMeetings, Cond.code yX11_layMeetings cX11_layMeetings 4 none, Cond.fieldLink RX11 123 "WovenRowsModel" "meetings" "I", Cond.fieldLink RX11 129 "WovenRowsModel" "first" "I", Cond.fieldLink RX11 132 "WovenRowsModel" "where" "I", Cond.methodLink RX11 117 yX11_spot, Cond.instanceMethod yX11_spot, Cond.selects RX11 yX11_spot yX11_spot]
def wsX11_year_r3 : List Cond := [Cond.code yX11_spot cX11_spot 3 (some .int), Cond.fieldLink RX11 25 "WovenRowsModel" "delay" "[I", Cond.methodLink RX11 135 yX11_doClear, Cond.instanceMethod yX11_doClear, Cond.selects RX11 yX11_doClear yX11_doClear, Cond.code yX11_doClear cX11_doClear 5 (some .boolean), Cond.fieldLink RX11 16 "WovenRowsModel" "width" "[I", Cond.methodLink RX11 120 yX11_widthOf, Cond.instanceMethod yX11_widthOf, Cond.selects RX11 yX11_widthOf yX11_widthOf, Cond.code yX11_widthOf cX11_widthOf 2 (some .int), Cond.fieldLink RX11 22 "WovenRowsModel" "wide" "[I"]
def wsX11_year : List Cond := .code yX11_year cX11_year 8 (some .int) :: ((wsX11_year_r1 ++ (wsX11_year_r2 ++ wsX11_year_r3)) ++ wsX110)
def wsX11_image : List Cond := .code yX11_image cX11_image 4 (some .int) :: ([.fieldLink RX11 51 "WovenRowsModel" "image" "[I", .fieldLink RX11 7 "WovenRowsModel" "book" "[I", .fieldLink RX11 16 "WovenRowsModel" "width" "[I", .fieldLink RX11 19 "WovenRowsModel" "key" "[I", .fieldLink RX11 28 "WovenRowsModel" "ahead" "[I", .fieldLink RX11 31 "WovenRowsModel" "after" "[I", .fieldLink RX11 22 "WovenRowsModel" "wide" "[I", .fieldLink RX11 34 "WovenRowsModel" "sight" "[I", .fieldLink RX11 25 "WovenRowsModel" "delay" "[I", .fieldLink RX11 145 "WovenRowsModel" "rules" "I", .fieldLink RX11 177 "WovenRowsModel" "sights" "I", .fieldLink RX11 54 "WovenRowsModel" "isKept" "[Z", .methodLink RX11 57 yX11_in, .static yX11_in, .initialized RX11, .code yX11_in cX11_in 3 (some .boolean)] ++ wsX110)
def wsX11_restore : List Cond := .code yX11_restore cX11_restore 4 (some .int) :: ([.fieldLink RX11 54 "WovenRowsModel" "isKept" "[Z", .fieldLink RX11 7 "WovenRowsModel" "book" "[I", .fieldLink RX11 51 "WovenRowsModel" "image" "[I", .fieldLink RX11 16 "WovenRowsModel" "width" "[I", .fieldLink RX11 19 "WovenRowsModel" "key" "[I", .fieldLink RX11 28 "WovenRowsModel" "ahead" "[I", .fieldLink RX11 31 "WovenRowsModel" "after" "[I", .fieldLink RX11 22 "WovenRowsModel" "wide" "[I", .fieldLink RX11 34 "WovenRowsModel" "sight" "[I", .fieldLink RX11 25 "WovenRowsModel" "delay" "[I", .fieldLink RX11 145 "WovenRowsModel" "rules" "I", .fieldLink RX11 177 "WovenRowsModel" "sights" "I", .methodLink RX11 57 yX11_in, .static yX11_in, .initialized RX11, .code yX11_in cX11_in 3 (some .boolean)] ++ wsX110)
def wsX11_told : List Cond := .code yX11_told cX11_told 4 (some .int) :: ([.fieldLink RX11 7 "WovenRowsModel" "book" "[I", .fieldLink RX11 19 "WovenRowsModel" "key" "[I", .fieldLink RX11 16 "WovenRowsModel" "width" "[I", .fieldLink RX11 22 "WovenRowsModel" "wide" "[I", .fieldLink RX11 68 "WovenRowsModel" "signs" "I", .fieldLink RX11 145 "WovenRowsModel" "rules" "I", .fieldLink RX11 177 "WovenRowsModel" "sights" "I", .fieldLink RX11 25 "WovenRowsModel" "delay" "[I", .methodLink RX11 65 yX11_isRow, .static yX11_isRow, .initialized RX11, .code yX11_isRow cX11_isRow 1 (some .boolean), .methodLink RX11 61 yX11_isMember, .static yX11_isMember, .code yX11_isMember cX11_isMember 1 (some .boolean), .methodLink RX11 57 yX11_in, .static yX11_in, .code yX11_in cX11_in 3 (some .boolean)] ++ wsX110)
def wsJ9_abs_0f7a4 : List Cond := .code yJ9_abs_0f7a4 cJ9_abs_0f7a4 1 (some .int) :: ([])
def wsJ9_max_7cf53 : List Cond := .code yJ9_max_7cf53 cJ9_max_7cf53 2 (some .int) :: ([])
def wsJ9_min_7cf53 : List Cond := .code yJ9_min_7cf53 cJ9_min_7cf53 2 (some .int) :: ([])
def wsL_law_r1 : List Cond := [Cond.classLink RL 7 RX10, Cond.instantiable RX10 12, Cond.initialized RX10, Cond.classLink RL 10 RX11, Cond.instantiable RX11 30, Cond.initialized RX11, Cond.methodLink RL 9 yX10_init, Cond.instanceMethod yX10_init, Cond.code yX10_init cX10_init 1 none, Cond.methodLink RX10 1 objectInit, Cond.instanceMethod objectInit, Cond.code objectInit ⟨#[0xb1]⟩ 1 none, Cond.classLink RX10 7 RX8, Cond.instantiable RX8 7, Cond.initialized RX8, Cond.fieldLink RX10 10 "WovenRows" "town" "LWovenRows$Town;", Cond.fieldLink RX10 16 "WovenRows" "trial" "LWovenRows$Town;", Cond.fieldLink RX10 19 "WovenRows" "firstImage" "LWovenRows$Town;", Cond.fieldLink RX10 22 "WovenRows" "secondImage" "LWovenRows$Town;", Cond.fieldLink RX10 25 "WovenRows" "keptImages" "I", Cond.classLink RX10 29 RX4, Cond.instantiable RX4 2, Cond.initialized RX4, Cond.fieldLink RX10 32 "WovenRows" "pad" "LWovenRows$Pad;"]
def wsL_law_r2 : List Cond := [Cond.classLink RX10 36 RX6, Cond.instantiable RX6 2, Cond.initialized RX6, Cond.fieldLink RX10 39 "WovenRows" "rehearsal" "LWovenRows$Rehearsal;", Cond.classLink RX10 43 RX1, Cond.instantiable RX1 5, Cond.initialized RX1, Cond.fieldLink RX10 46 "WovenRows" "meetings" "LWovenRows$Meetings;", Cond.classLink RX10 50 RX3, Cond.instantiable RX3 4, Cond.initialized RX3, Cond.fieldLink RX10 53 "WovenRows" "arranging" "LWovenRows$Orders;", Cond.classLink RX10 57 RX9, Cond.instantiable RX9 6, Cond.initialized RX9, Cond.fieldLink RX10 60 "WovenRows" "watch" "LWovenRows$Watch;", Cond.classLink RX10 64 RX0, Cond.instantiable RX0 2, Cond.initialized RX0, Cond.fieldLink RX10 67 "WovenRows" "fewest" "LWovenRows$Fewest;", Cond.classLink RX10 71 RX2, Cond.instantiable RX2 3, Cond.initialized RX2, Cond.fieldLink RX10 74 "WovenRows" "odds" "LWovenRows$Odds;"]
def wsL_law_r3 : List Cond := [Cond.methodLink RX10 9 yX8_init, Cond.instanceMethod yX8_init, Cond.code yX8_init cX8_init 1 none, Cond.methodLink RX8 3 objectInit, Cond.arrayClass .int, Cond.fieldLink RX8 9 "WovenRows$Town" "widths" "[I", Cond.fieldLink RX8 15 "WovenRows$Town" "keys" "[I", Cond.fieldLink RX8 18 "WovenRows$Town" "cells" "[I", Cond.fieldLink RX8 21 "WovenRows$Town" "delays" "[I", Cond.classLink RX8 24 RX7, Cond.instantiable RX7 3, Cond.initialized RX7, Cond.fieldLink RX8 27 "WovenRows$Town" "rows" "LWovenRows$Rows;", Cond.classLink RX8 31 RX5, Cond.instantiable RX5 3, Cond.initialized RX5, Cond.fieldLink RX8 36 "WovenRows$Town" "rules" "LWovenRows$Pairs;", Cond.fieldLink RX8 40 "WovenRows$Town" "sights" "LWovenRows$Pairs;", Cond.methodLink RX8 26 yX7_init, Cond.instanceMethod yX7_init, Cond.code yX7_init cX7_init 1 none, Cond.methodLink RX7 3 objectInit, Cond.fieldLink RX7 9 "WovenRows$Rows" "rowOf" "[I", Cond.fieldLink RX7 15 "WovenRows$Rows" "placeOf" "[I"]
def wsL_law_r4 : List Cond := [Cond.fieldLink RX7 18 "WovenRows$Rows" "rung" "I", Cond.static yX10_fill, Cond.code yX10_fill cX10_fill 3 none, Cond.methodLink RX8 33 yX5_init, Cond.instanceMethod yX5_init, Cond.code yX5_init cX5_init 2 none, Cond.methodLink RX5 1 objectInit, Cond.fieldLink RX5 7 "WovenRows$Pairs" "count" "I", Cond.methodLink RX5 13 Lib.Math.max.name, Cond.static Lib.Math.max.name, Cond.initialized "java/lang/Math", Cond.code Lib.Math.max.name Lib.Math.max.code 2 (some .int), Cond.fieldLink RX5 19 "WovenRows$Pairs" "firsts" "[I", Cond.fieldLink RX5 23 "WovenRows$Pairs" "seconds" "[I", Cond.instanceMethod yX4_init, Cond.code yX4_init cX4_init 1 none, Cond.methodLink RX4 3 objectInit, Cond.fieldLink RX4 9 "WovenRows$Pad" "signs" "[I", Cond.fieldLink RX4 15 "WovenRows$Pad" "count" "I", Cond.instanceMethod yX6_init, Cond.code yX6_init cX6_init 1 none, Cond.methodLink RX6 1 objectInit, Cond.fieldLink RX6 7 "WovenRows$Rehearsal" "acts" "I", Cond.fieldLink RX6 13 "WovenRows$Rehearsal" "why" "I"]
def wsL_law_r5 : List Cond := [Cond.instanceMethod yX1_init, Cond.code yX1_init cX1_init 1 none, Cond.methodLink RX1 3 objectInit, Cond.fieldLink RX1 9 "WovenRows$Meetings" "twos" "I", Cond.fieldLink RX1 15 "WovenRows$Meetings" "clashes" "I", Cond.fieldLink RX1 18 "WovenRows$Meetings" "first" "I", Cond.fieldLink RX1 21 "WovenRows$Meetings" "where" "I", Cond.fieldLink RX1 24 "WovenRows$Meetings" "firstTurn" "I", Cond.instanceMethod yX3_init, Cond.code yX3_init cX3_init 1 none, Cond.methodLink RX3 3 objectInit, Cond.fieldLink RX3 9 "WovenRows$Orders" "crowd" "[I", Cond.fieldLink RX3 15 "WovenRows$Orders" "costs" "[I", Cond.fieldLink RX3 18 "WovenRows$Orders" "answers" "[I", Cond.fieldLink RX3 21 "WovenRows$Orders" "size" "I", Cond.instanceMethod yX9_init, Cond.code yX9_init cX9_init 1 none, Cond.methodLink RX9 3 objectInit, Cond.fieldLink RX9 9 "WovenRows$Watch" "rowOf" "[I", Cond.fieldLink RX9 15 "WovenRows$Watch" "startOf" "[I", Cond.fieldLink RX9 18 "WovenRows$Watch" "tally" "[I", Cond.fieldLink RX9 21 "WovenRows$Watch" "count" "I", Cond.fieldLink RX9 25 "WovenRows$Watch" "memberBits" "I", Cond.fieldLink RX9 28 "WovenRows$Watch" "lateBits" "I"]
def wsL_law_r6 : List Cond := [Cond.instanceMethod yX0_init, Cond.code yX0_init cX0_init 1 none, Cond.methodLink RX0 3 objectInit, Cond.fieldLink RX0 9 "WovenRows$Fewest" "by" "I", Cond.fieldLink RX0 15 "WovenRows$Fewest" "count" "I", Cond.instanceMethod yX2_init, Cond.code yX2_init cX2_init 1 none, Cond.methodLink RX2 3 objectInit, Cond.arrayClass .long, Cond.fieldLink RX2 9 "WovenRows$Odds" "weights" "[J", Cond.fieldLink RX2 15 "WovenRows$Odds" "upper" "J", Cond.fieldLink RX2 19 "WovenRows$Odds" "lower" "J", Cond.methodLink RL 12 yX11_init, Cond.instanceMethod yX11_init, Cond.code yX11_init cX11_init 2 none, Cond.methodLink RX11 1 objectInit, Cond.fieldLink RX11 7 "WovenRowsModel" "book" "[I", Cond.fieldLink RX11 13 "WovenRowsModel" "now" "[I", Cond.fieldLink RX11 16 "WovenRowsModel" "width" "[I", Cond.fieldLink RX11 19 "WovenRowsModel" "key" "[I", Cond.fieldLink RX11 22 "WovenRowsModel" "wide" "[I", Cond.fieldLink RX11 25 "WovenRowsModel" "delay" "[I", Cond.fieldLink RX11 28 "WovenRowsModel" "ahead" "[I", Cond.fieldLink RX11 31 "WovenRowsModel" "after" "[I"]
def wsL_law_r7 : List Cond := [Cond.fieldLink RX11 34 "WovenRowsModel" "sight" "[I", Cond.fieldLink RX11 37 "WovenRowsModel" "pad" "[I", Cond.fieldLink RX11 40 "WovenRowsModel" "counts" "[I", Cond.arrayClass .boolean, Cond.fieldLink RX11 43 "WovenRowsModel" "isOne" "[Z", Cond.fieldLink RX11 47 "WovenRowsModel" "ways" "[J", Cond.fieldLink RX11 51 "WovenRowsModel" "image" "[I", Cond.fieldLink RX11 54 "WovenRowsModel" "isKept" "[Z", Cond.methodLink RL 13 yX10_member, Cond.instanceMethod yX10_member, Cond.selects RX10 yX10_member yX10_member, Cond.code yX10_member cX10_member 5 (some .int), Cond.methodLink RX10 78 yX10_within, Cond.static yX10_within, Cond.code yX10_within cX10_within 3 (some .boolean), Cond.methodLink RX10 86 yX10_at, Cond.static yX10_at, Cond.code yX10_at cX10_at 2 (some .int), Cond.methodLink RX10 90 yX10_put, Cond.static yX10_put, Cond.code yX10_put cX10_put 3 none, Cond.methodLink RL 17 yX11_member, Cond.instanceMethod yX11_member, Cond.selects RX11 yX11_member yX11_member]
def wsL_law_r8 : List Cond := [Cond.code yX11_member cX11_member 5 (some .int), Cond.methodLink RX11 61 yX11_isMember, Cond.static yX11_isMember, Cond.code yX11_isMember cX11_isMember 1 (some .boolean), Cond.methodLink RX11 57 yX11_in, Cond.static yX11_in, Cond.code yX11_in cX11_in 3 (some .boolean), Cond.methodLink RL 18 yX10_wide, Cond.instanceMethod yX10_wide, Cond.selects RX10 yX10_wide yX10_wide, Cond.code yX10_wide cX10_wide 4 (some .int), Cond.methodLink RL 22 yX11_wide, Cond.instanceMethod yX11_wide, Cond.selects RX11 yX11_wide yX11_wide, Cond.code yX11_wide cX11_wide 4 (some .int), Cond.methodLink RL 23 yX10_delay, Cond.instanceMethod yX10_delay, Cond.selects RX10 yX10_delay yX10_delay, Cond.code yX10_delay cX10_delay 4 (some .int), Cond.methodLink RX10 100 yX10_isRow, Cond.static yX10_isRow, Cond.code yX10_isRow cX10_isRow 1 (some .boolean), Cond.methodLink RL 26 yX11_delay, Cond.instanceMethod yX11_delay]
def wsL_law_r9 : List Cond := [Cond.selects RX11 yX11_delay yX11_delay, Cond.code yX11_delay cX11_delay 4 (some .int), Cond.methodLink RX11 65 yX11_isRow, Cond.static yX11_isRow, Cond.code yX11_isRow cX11_isRow 1 (some .boolean), Cond.methodLink RL 27 yX10_say, Cond.instanceMethod yX10_say, Cond.selects RX10 yX10_say yX10_say, Cond.code yX10_say cX10_say 2 (some .int), Cond.methodLink RX10 110 yX4_write, Cond.instanceMethod yX4_write, Cond.selects RX4 yX4_write yX4_write, Cond.code yX4_write cX4_write 2 none, Cond.methodLink RL 31 yX11_say, Cond.instanceMethod yX11_say, Cond.selects RX11 yX11_say yX11_say, Cond.code yX11_say cX11_say 2 (some .int), Cond.fieldLink RX11 68 "WovenRowsModel" "signs" "I", Cond.methodLink RL 32 yX10_wipe, Cond.instanceMethod yX10_wipe, Cond.selects RX10 yX10_wipe yX10_wipe, Cond.code yX10_wipe cX10_wipe 1 (some .int), Cond.methodLink RX10 114 yX4_empty, Cond.instanceMethod yX4_empty]
def wsL_law_r10 : List Cond := [Cond.selects RX4 yX4_empty yX4_empty, Cond.code yX4_empty cX4_empty 2 (some .int), Cond.methodLink RL 36 yX11_wipe, Cond.instanceMethod yX11_wipe, Cond.selects RX11 yX11_wipe yX11_wipe, Cond.code yX11_wipe cX11_wipe 2 (some .int), Cond.methodLink RL 37 yX10_fault, Cond.instanceMethod yX10_fault, Cond.selects RX10 yX10_fault yX10_fault, Cond.code yX10_fault cX10_fault 1 (some .int), Cond.methodLink RX10 118 yX4_firstFault, Cond.instanceMethod yX4_firstFault, Cond.selects RX4 yX4_firstFault yX4_firstFault, Cond.code yX4_firstFault cX4_firstFault 3 (some .int), Cond.methodLink RX4 27 yX4_wantsAfter, Cond.static yX4_wantsAfter, Cond.code yX4_wantsAfter cX4_wantsAfter 2 (some .int), Cond.methodLink RX4 33 yX4_isLetter, Cond.static yX4_isLetter, Cond.code yX4_isLetter cX4_isLetter 1 (some .boolean), Cond.methodLink RX4 37 yX4_endsAsVerb, Cond.static yX4_endsAsVerb, Cond.code yX4_endsAsVerb cX4_endsAsVerb 1 (some .boolean), Cond.methodLink RL 40 yX11_fault]
def wsL_law_r11 : List Cond := [Cond.instanceMethod yX11_fault, Cond.selects RX11 yX11_fault yX11_fault, Cond.code yX11_fault cX11_fault 1 (some .int), Cond.methodLink RX11 75 yX11_faultOf, Cond.instanceMethod yX11_faultOf, Cond.selects RX11 yX11_faultOf yX11_faultOf, Cond.code yX11_faultOf cX11_faultOf 5 (some .int), Cond.methodLink RX11 72 yX11_isLetter, Cond.static yX11_isLetter, Cond.code yX11_isLetter cX11_isLetter 1 (some .boolean), Cond.methodLink RL 41 yX10_judge, Cond.instanceMethod yX10_judge, Cond.selects RX10 yX10_judge yX10_judge, Cond.code yX10_judge cX10_judge 2 (some .int), Cond.methodLink RX10 121 yX6_play, Cond.instanceMethod yX6_play, Cond.selects RX6 yX6_play yX6_play, Cond.code yX6_play cX6_play 7 none, Cond.methodLink RX6 16 yX8_takeFrom, Cond.instanceMethod yX8_takeFrom, Cond.selects RX8 yX8_takeFrom yX8_takeFrom, Cond.code yX8_takeFrom cX8_takeFrom 2 none, Cond.static yX10_copy, Cond.code yX10_copy cX10_copy 3 none]
def wsL_law_r12 : List Cond := [Cond.methodLink RX8 51 yX7_takeFrom, Cond.instanceMethod yX7_takeFrom, Cond.selects RX7 yX7_takeFrom yX7_takeFrom, Cond.code yX7_takeFrom cX7_takeFrom 2 none, Cond.methodLink RX8 55 yX5_takeFrom, Cond.instanceMethod yX5_takeFrom, Cond.selects RX5 yX5_takeFrom yX5_takeFrom, Cond.code yX5_takeFrom cX5_takeFrom 2 none, Cond.methodLink RX6 27 yX4_kindEndingAt, Cond.instanceMethod yX4_kindEndingAt, Cond.selects RX4 yX4_kindEndingAt yX4_kindEndingAt, Cond.code yX4_kindEndingAt cX4_kindEndingAt 3 (some .int), Cond.methodLink RX6 37 yX4_memberAt, Cond.instanceMethod yX4_memberAt, Cond.selects RX4 yX4_memberAt yX4_memberAt, Cond.code yX4_memberAt cX4_memberAt 2 (some .int), Cond.methodLink RX6 40 yX7_attempt, Cond.instanceMethod yX7_attempt, Cond.selects RX7 yX7_attempt yX7_attempt, Cond.code yX7_attempt cX7_attempt 5 (some .int), Cond.methodLink RX7 34 yX7_reasonAgainst, Cond.instanceMethod yX7_reasonAgainst, Cond.selects RX7 yX7_reasonAgainst yX7_reasonAgainst, Cond.code yX7_reasonAgainst cX7_reasonAgainst 4 (some .int)]
def wsL_law_r13 : List Cond := [Cond.methodLink RX7 42 yX7_reasonAgainstJoining, Cond.instanceMethod yX7_reasonAgainstJoining, Cond.selects RX7 yX7_reasonAgainstJoining yX7_reasonAgainstJoining, Cond.code yX7_reasonAgainstJoining cX7_reasonAgainstJoining 3 (some .int), Cond.methodLink RX7 46 yX7_lengthOf, Cond.instanceMethod yX7_lengthOf, Cond.selects RX7 yX7_lengthOf yX7_lengthOf, Cond.code yX7_lengthOf cX7_lengthOf 4 (some .int), Cond.methodLink RX7 38 yX7_carryOut, Cond.instanceMethod yX7_carryOut, Cond.selects RX7 yX7_carryOut yX7_carryOut, Cond.code yX7_carryOut cX7_carryOut 4 none, Cond.methodLink RX7 50 yX7_join, Cond.instanceMethod yX7_join, Cond.selects RX7 yX7_join yX7_join, Cond.code yX7_join cX7_join 3 none, Cond.methodLink RX7 54 yX7_leave, Cond.instanceMethod yX7_leave, Cond.selects RX7 yX7_leave yX7_leave, Cond.code yX7_leave cX7_leave 6 none, Cond.methodLink RX7 58 yX7_swap, Cond.static yX7_swap, Cond.code yX7_swap cX7_swap 4 none, Cond.methodLink RL 44 yX11_judge]
def wsL_law_r14 : List Cond := [Cond.instanceMethod yX11_judge, Cond.selects RX11 yX11_judge yX11_judge, Cond.code yX11_judge cX11_judge 3 (some .int), Cond.fieldLink RX11 92 "WovenRowsModel" "reason" "I", Cond.methodLink RX11 105 yX11_goDays, Cond.instanceMethod yX11_goDays, Cond.selects RX11 yX11_goDays yX11_goDays, Cond.code yX11_goDays cX11_goDays 4 (some .int), Cond.fieldLink RX11 86 "WovenRowsModel" "acts" "I", Cond.methodLink RX11 83 yX11_asNow, Cond.instanceMethod yX11_asNow, Cond.selects RX11 yX11_asNow yX11_asNow, Cond.code yX11_asNow cX11_asNow 2 none, Cond.methodLink RX11 89 yX11_ring, Cond.instanceMethod yX11_ring, Cond.selects RX11 yX11_ring yX11_ring, Cond.code yX11_ring cX11_ring 1 (some .int), Cond.methodLink RX11 95 yX11_change, Cond.instanceMethod yX11_change, Cond.selects RX11 yX11_change yX11_change, Cond.code yX11_change cX11_change 5 (some .int), Cond.methodLink RX11 79 yX11_spotOf, Cond.instanceMethod yX11_spotOf, Cond.selects RX11 yX11_spotOf yX11_spotOf]
def wsL_law_r15 : List Cond := [Cond.code yX11_spotOf cX11_spotOf 4 (some .int), Cond.methodLink RX11 99 yX11_goHome, Cond.instanceMethod yX11_goHome, Cond.selects RX11 yX11_goHome yX11_goHome, Cond.code yX11_goHome cX11_goHome 5 (some .int), Cond.methodLink RX11 102 yX11_join, Cond.instanceMethod yX11_join, Cond.selects RX11 yX11_join yX11_join, Cond.code yX11_join cX11_join 3 (some .int), Cond.methodLink RL 45 yX10_done, Cond.instanceMethod yX10_done, Cond.selects RX10 yX10_done yX10_done, Cond.code yX10_done cX10_done 1 (some .int), Cond.methodLink RX10 131 yX10_daysCanBe, Cond.instanceMethod yX10_daysCanBe, Cond.selects RX10 yX10_daysCanBe yX10_daysCanBe, Cond.code yX10_daysCanBe cX10_daysCanBe 1 (some .boolean), Cond.methodLink RX10 139 yX7_takeFrom, Cond.methodLink RL 48 yX11_done, Cond.instanceMethod yX11_done, Cond.selects RX11 yX11_done yX11_done, Cond.code yX11_done cX11_done 2 (some .int), Cond.methodLink RX11 108 yX11_barOfDays, Cond.instanceMethod yX11_barOfDays]
def wsL_law_r16 : List Cond := [Cond.selects RX11 yX11_barOfDays yX11_barOfDays, Cond.code yX11_barOfDays cX11_barOfDays 1 (some .int), Cond.methodLink RL 49 yX10_place, Cond.instanceMethod yX10_place, Cond.selects RX10 yX10_place yX10_place, Cond.code yX10_place cX10_place 3 (some .int), Cond.methodLink RX10 145 yX7_whoIsAt, Cond.instanceMethod yX7_whoIsAt, Cond.selects RX7 yX7_whoIsAt yX7_whoIsAt, Cond.code yX7_whoIsAt cX7_whoIsAt 4 (some .int), Cond.methodLink RL 52 yX11_place, Cond.instanceMethod yX11_place, Cond.selects RX11 yX11_place yX11_place, Cond.code yX11_place cX11_place 3 (some .int), Cond.methodLink RL 53 yX10_of, Cond.instanceMethod yX10_of, Cond.selects RX10 yX10_of yX10_of, Cond.code yX10_of cX10_of 3 (some .int), Cond.methodLink RL 56 yX11_of, Cond.instanceMethod yX11_of, Cond.selects RX11 yX11_of yX11_of, Cond.code yX11_of cX11_of 4 (some .int), Cond.methodLink RL 57 yX10_bells, Cond.instanceMethod yX10_bells]
def wsL_law_r17 : List Cond := [Cond.selects RX10 yX10_bells yX10_bells, Cond.code yX10_bells cX10_bells 1 (some .int), Cond.methodLink RL 60 yX11_bells, Cond.instanceMethod yX11_bells, Cond.selects RX11 yX11_bells yX11_bells, Cond.code yX11_bells cX11_bells 1 (some .int), Cond.methodLink RL 61 yX10_meets, Cond.instanceMethod yX10_meets, Cond.selects RX10 yX10_meets yX10_meets, Cond.code yX10_meets cX10_meets 2 (some .int), Cond.methodLink RX10 158 yX1_count, Cond.instanceMethod yX1_count, Cond.selects RX1 yX1_count yX1_count, Cond.code yX1_count cX1_count 3 none, Cond.methodLink RX1 43 yX1_countOf, Cond.instanceMethod yX1_countOf, Cond.selects RX1 yX1_countOf yX1_countOf, Cond.code yX1_countOf cX1_countOf 7 none, Cond.methodLink RX1 47 yX8_startOf, Cond.instanceMethod yX8_startOf, Cond.selects RX8 yX8_startOf yX8_startOf, Cond.code yX8_startOf cX8_startOf 2 (some .int), Cond.methodLink RX1 51 yX8_spotOf, Cond.static yX8_spotOf]
def wsL_law_r18 : List Cond := [Cond.code yX8_spotOf cX8_spotOf 3 (some .int), Cond.methodLink RX1 55 yX8_clash, Cond.instanceMethod yX8_clash, Cond.selects RX8 yX8_clash yX8_clash, Cond.code yX8_clash cX8_clash 5 (some .boolean), Cond.methodLink RX8 76 Lib.Math.min.name, Cond.static Lib.Math.min.name, Cond.code Lib.Math.min.name Lib.Math.min.code 2 (some .int), Cond.methodLink RX1 62 yX1_noteClash, Cond.instanceMethod yX1_noteClash, Cond.selects RX1 yX1_noteClash yX1_noteClash, Cond.code yX1_noteClash cX1_noteClash 4 none, Cond.methodLink RL 64 yX11_meets, Cond.instanceMethod yX11_meets, Cond.selects RX11 yX11_meets yX11_meets, Cond.code yX11_meets cX11_meets 2 (some .int), Cond.fieldLink RX11 123 "WovenRowsModel" "meetings" "I", Cond.fieldLink RX11 126 "WovenRowsModel" "clashes" "I", Cond.fieldLink RX11 129 "WovenRowsModel" "first" "I", Cond.fieldLink RX11 132 "WovenRowsModel" "where" "I", Cond.methodLink RX11 139 yX11_plain, Cond.instanceMethod yX11_plain, Cond.selects RX11 yX11_plain yX11_plain, Cond.code yX11_plain cX11_plain 1 none]
def wsL_law_r19 : List Cond := [Cond.fieldLink RX11 111 "WovenRowsModel" "door" "I", Cond.fieldLink RX11 114 "WovenRowsModel" "wider" "I", Cond.methodLink RX11 142 yX11_layMeetings, Cond.instanceMethod yX11_layMeetings, Cond.selects RX11 yX11_layMeetings yX11_layMeetings, Cond.code yX11_layMeetings cX11_layMeetings 4 none, Cond.methodLink RX11 117 yX11_spot, Cond.instanceMethod yX11_spot, Cond.selects RX11 yX11_spot yX11_spot, Cond.code yX11_spot cX11_spot 3 (some .int), Cond.methodLink RX11 135 yX11_doClear, Cond.instanceMethod yX11_doClear, Cond.selects RX11 yX11_doClear yX11_doClear, Cond.code yX11_doClear cX11_doClear 5 (some .boolean), Cond.methodLink RX11 120 yX11_widthOf, Cond.instanceMethod yX11_widthOf, Cond.selects RX11 yX11_widthOf yX11_widthOf, Cond.code yX11_widthOf cX11_widthOf 2 (some .int), Cond.methodLink RL 65 yX10_runs, Cond.instanceMethod yX10_runs, Cond.selects RX10 yX10_runs yX10_runs, Cond.code yX10_runs cX10_runs 1 (some .int), Cond.methodLink RX10 177 Lib.Math.max.name, Cond.methodLink RX10 173 yX8_emptyFrom]
def wsL_law_r20 : List Cond := [Cond.instanceMethod yX8_emptyFrom, Cond.selects RX8 yX8_emptyFrom yX8_emptyFrom, Cond.code yX8_emptyFrom cX8_emptyFrom 3 (some .int), Cond.methodLink RX8 68 yX7_lengthOf, Cond.methodLink RL 68 yX11_runs, Cond.instanceMethod yX11_runs, Cond.selects RX11 yX11_runs yX11_runs, Cond.code yX11_runs cX11_runs 4 (some .int), Cond.methodLink RL 69 yX10_order, Cond.instanceMethod yX10_order, Cond.selects RX10 yX10_order yX10_order, Cond.code yX10_order cX10_order 3 (some .int), Cond.methodLink RX10 182 yX3_gather, Cond.instanceMethod yX3_gather, Cond.selects RX3 yX3_gather yX3_gather, Cond.code yX3_gather cX3_gather 4 none, Cond.methodLink RX10 186 yX3_countClashes, Cond.instanceMethod yX3_countClashes, Cond.selects RX3 yX3_countClashes yX3_countClashes, Cond.code yX3_countClashes cX3_countClashes 5 none, Cond.methodLink RX3 42 yX8_clashesIn, Cond.instanceMethod yX8_clashesIn, Cond.selects RX8 yX8_clashesIn yX8_clashesIn, Cond.code yX8_clashesIn cX8_clashesIn 8 (some .int)]
def wsL_law_r21 : List Cond := [Cond.methodLink RX8 82 yX8_startOf, Cond.methodLink RX8 85 yX8_spotOf, Cond.methodLink RX8 88 yX8_clash, Cond.methodLink RX3 38 yX3_all, Cond.instanceMethod yX3_all, Cond.selects RX3 yX3_all yX3_all, Cond.code yX3_all cX3_all 1 (some .int), Cond.methodLink RX3 48 yX3_fewestOf, Cond.instanceMethod yX3_fewestOf, Cond.selects RX3 yX3_fewestOf yX3_fewestOf, Cond.code yX3_fewestOf cX3_fewestOf 5 (some .int), Cond.methodLink RX3 60 Lib.Math.min.name, Cond.methodLink RX3 52 yX3_holds, Cond.static yX3_holds, Cond.code yX3_holds cX3_holds 2 (some .boolean), Cond.methodLink RX3 56 yX3_ledBy, Cond.instanceMethod yX3_ledBy, Cond.selects RX3 yX3_ledBy yX3_ledBy, Cond.code yX3_ledBy cX3_ledBy 4 (some .int), Cond.methodLink RX3 65 yJ6_bitCount_0f7a4, Cond.static yJ6_bitCount_0f7a4, Cond.initialized RJ6, Cond.code yJ6_bitCount_0f7a4 cJ6_bitCount_0f7a4 1 (some .int), Cond.constant RJ6 265 (1431655765)]
def wsL_law_r22 : List Cond := [Cond.constant RJ6 266 (858993459), Cond.constant RJ6 267 (252645135), Cond.methodLink RX3 70 yX3_without, Cond.static yX3_without, Cond.code yX3_without cX3_without 2 (some .int), Cond.methodLink RX10 190 yX3_answerForAll, Cond.instanceMethod yX3_answerForAll, Cond.selects RX3 yX3_answerForAll yX3_answerForAll, Cond.code yX3_answerForAll cX3_answerForAll 1 (some .int), Cond.methodLink RX10 193 yX3_firstOfFewest, Cond.instanceMethod yX3_firstOfFewest, Cond.selects RX3 yX3_firstOfFewest yX3_firstOfFewest, Cond.code yX3_firstOfFewest cX3_firstOfFewest 6 (some .int), Cond.methodLink RL 72 yX11_order, Cond.instanceMethod yX11_order, Cond.selects RX11 yX11_order yX11_order, Cond.code yX11_order cX11_order 3 (some .int), Cond.fieldLink RX11 158 "WovenRowsModel" "least" "I", Cond.fieldLink RX11 161 "WovenRowsModel" "leastOrder" "I", Cond.methodLink RX11 170 yX11_layOrders, Cond.instanceMethod yX11_layOrders, Cond.selects RX11 yX11_layOrders yX11_layOrders, Cond.code yX11_layOrders cX11_layOrders 6 none, Cond.fieldLink RX11 151 "WovenRowsModel" "ordersFound" "I"]
def wsL_law_r23 : List Cond := [Cond.fieldLink RX11 154 "WovenRowsModel" "firstOrder" "I", Cond.constant RX11 157 (1000000), Cond.methodLink RX11 164 yX11_layRow, Cond.instanceMethod yX11_layRow, Cond.selects RX11 yX11_layRow yX11_layRow, Cond.code yX11_layRow cX11_layRow 8 (some .int), Cond.methodLink RX11 148 yX11_bits, Cond.static yX11_bits, Cond.code yX11_bits cX11_bits 3 (some .int), Cond.methodLink RX11 167 yX11_keepsRules, Cond.instanceMethod yX11_keepsRules, Cond.selects RX11 yX11_keepsRules yX11_keepsRules, Cond.code yX11_keepsRules cX11_keepsRules 6 (some .boolean), Cond.fieldLink RX11 145 "WovenRowsModel" "rules" "I", Cond.methodLink RL 73 yX10_start, Cond.instanceMethod yX10_start, Cond.selects RX10 yX10_start yX10_start, Cond.code yX10_start cX10_start 3 (some .int), Cond.methodLink RX10 196 yX8_takeFrom, Cond.methodLink RX10 198 yX0_begin, Cond.instanceMethod yX0_begin, Cond.selects RX0 yX0_begin yX0_begin, Cond.code yX0_begin cX0_begin 1 none, Cond.methodLink RX10 201 yX0_offer]
def wsL_law_r24 : List Cond := [Cond.instanceMethod yX0_offer, Cond.selects RX0 yX0_offer yX0_offer, Cond.code yX0_offer cX0_offer 3 none, Cond.methodLink RL 76 yX11_start, Cond.instanceMethod yX11_start, Cond.selects RX11 yX11_start yX11_start, Cond.code yX11_start cX11_start 6 (some .int), Cond.methodLink RL 77 yX10_door, Cond.instanceMethod yX10_door, Cond.selects RX10 yX10_door yX10_door, Cond.code yX10_door cX10_door 5 (some .int), Cond.methodLink RL 80 yX11_door, Cond.instanceMethod yX11_door, Cond.selects RX11 yX11_door yX11_door, Cond.code yX11_door cX11_door 6 (some .int), Cond.methodLink RL 81 yX10_grate, Cond.instanceMethod yX10_grate, Cond.selects RX10 yX10_grate yX10_grate, Cond.code yX10_grate cX10_grate 3 (some .int), Cond.methodLink RX10 209 yX1_grating, Cond.instanceMethod yX1_grating, Cond.selects RX1 yX1_grating yX1_grating, Cond.code yX1_grating cX1_grating 5 (some .int), Cond.methodLink RX1 69 yX1_gratingWith]
def wsL_law_r25 : List Cond := [Cond.static yX1_gratingWith, Cond.code yX1_gratingWith cX1_gratingWith 6 (some .int), Cond.methodLink RX1 73 Lib.Math.abs.name, Cond.static Lib.Math.abs.name, Cond.code Lib.Math.abs.name Lib.Math.abs.code 1 (some .int), Cond.methodLink RL 84 yX11_grate, Cond.instanceMethod yX11_grate, Cond.selects RX11 yX11_grate yX11_grate, Cond.code yX11_grate cX11_grate 4 (some .int), Cond.methodLink RX11 174 yX11_grating, Cond.instanceMethod yX11_grating, Cond.selects RX11 yX11_grating yX11_grating, Cond.code yX11_grating cX11_grating 9 (some .int), Cond.methodLink RL 85 yX10_rule, Cond.instanceMethod yX10_rule, Cond.selects RX10 yX10_rule yX10_rule, Cond.code yX10_rule cX10_rule 3 (some .int), Cond.methodLink RX10 220 yX5_append, Cond.instanceMethod yX5_append, Cond.selects RX5 yX5_append yX5_append, Cond.code yX5_append cX5_append 3 none, Cond.methodLink RL 88 yX11_rule, Cond.instanceMethod yX11_rule, Cond.selects RX11 yX11_rule yX11_rule]
def wsL_law_r26 : List Cond := [Cond.code yX11_rule cX11_rule 3 (some .int), Cond.methodLink RL 89 yX10_unrule, Cond.instanceMethod yX10_unrule, Cond.selects RX10 yX10_unrule yX10_unrule, Cond.code yX10_unrule cX10_unrule 1 (some .int), Cond.methodLink RX10 223 yX5_empty, Cond.instanceMethod yX5_empty, Cond.selects RX5 yX5_empty yX5_empty, Cond.code yX5_empty cX5_empty 2 (some .int), Cond.methodLink RL 92 yX11_unrule, Cond.instanceMethod yX11_unrule, Cond.selects RX11 yX11_unrule yX11_unrule, Cond.code yX11_unrule cX11_unrule 2 (some .int), Cond.methodLink RL 93 yX10_orders, Cond.instanceMethod yX10_orders, Cond.selects RX10 yX10_orders yX10_orders, Cond.code yX10_orders cX10_orders 3 (some .int), Cond.methodLink RX10 224 yX3_countOrders, Cond.instanceMethod yX3_countOrders, Cond.selects RX3 yX3_countOrders yX3_countOrders, Cond.code yX3_countOrders cX3_countOrders 6 none, Cond.methodLink RX3 73 yX3_mayLead, Cond.instanceMethod yX3_mayLead, Cond.selects RX3 yX3_mayLead yX3_mayLead]
def wsL_law_r27 : List Cond := [Cond.code yX3_mayLead cX3_mayLead 5 (some .boolean), Cond.methodLink RX3 88 yX3_holdsMember, Cond.instanceMethod yX3_holdsMember, Cond.selects RX3 yX3_holdsMember yX3_holdsMember, Cond.code yX3_holdsMember cX3_holdsMember 4 (some .boolean), Cond.methodLink RX10 228 yX3_firstByRules, Cond.instanceMethod yX3_firstByRules, Cond.selects RX3 yX3_firstByRules yX3_firstByRules, Cond.code yX3_firstByRules cX3_firstByRules 7 (some .int), Cond.methodLink RX3 91 yX3_answerForAll, Cond.methodLink RL 96 yX11_orders, Cond.instanceMethod yX11_orders, Cond.selects RX11 yX11_orders yX11_orders, Cond.code yX11_orders cX11_orders 3 (some .int), Cond.methodLink RL 97 yX10_seen, Cond.instanceMethod yX10_seen, Cond.selects RX10 yX10_seen yX10_seen, Cond.code yX10_seen cX10_seen 3 (some .int), Cond.methodLink RL 100 yX11_seen, Cond.instanceMethod yX11_seen, Cond.selects RX11 yX11_seen yX11_seen, Cond.code yX11_seen cX11_seen 3 (some .int), Cond.fieldLink RX11 177 "WovenRowsModel" "sights" "I", Cond.methodLink RL 101 yX10_forget]
def wsL_law_r28 : List Cond := [Cond.instanceMethod yX10_forget, Cond.selects RX10 yX10_forget yX10_forget, Cond.code yX10_forget cX10_forget 1 (some .int), Cond.methodLink RL 104 yX11_forget, Cond.instanceMethod yX11_forget, Cond.selects RX11 yX11_forget yX11_forget, Cond.code yX11_forget cX11_forget 2 (some .int), Cond.methodLink RL 105 yX10_who, Cond.instanceMethod yX10_who, Cond.selects RX10 yX10_who yX10_who, Cond.code yX10_who cX10_who 2 (some .int), Cond.methodLink RX10 235 yX9_fit, Cond.instanceMethod yX9_fit, Cond.selects RX9 yX9_fit yX9_fit, Cond.code yX9_fit cX9_fit 6 none, Cond.methodLink RX9 44 yX8_startOf, Cond.methodLink RX9 51 yX9_allAreSo, Cond.static yX9_allAreSo, Cond.code yX9_allAreSo cX9_allAreSo 4 (some .boolean), Cond.methodLink RX9 65 yX9_cellAt, Cond.static yX9_cellAt, Cond.code yX9_cellAt cX9_cellAt 4 (some .int), Cond.methodLink RL 108 yX11_who, Cond.instanceMethod yX11_who]
def wsL_law_r29 : List Cond := [Cond.selects RX11 yX11_who yX11_who, Cond.code yX11_who cX11_who 7 (some .int), Cond.methodLink RX11 184 yX11_fits, Cond.instanceMethod yX11_fits, Cond.selects RX11 yX11_fits yX11_fits, Cond.code yX11_fits cX11_fits 5 (some .boolean), Cond.methodLink RX11 180 yX11_cellOf, Cond.instanceMethod yX11_cellOf, Cond.selects RX11 yX11_cellOf yX11_cellOf, Cond.code yX11_cellOf cX11_cellOf 5 (some .int), Cond.methodLink RL 109 yX10_look, Cond.instanceMethod yX10_look, Cond.selects RX10 yX10_look yX10_look, Cond.code yX10_look cX10_look 3 (some .int), Cond.methodLink RX10 245 yX9_mostLeftAt, Cond.instanceMethod yX9_mostLeftAt, Cond.selects RX9 yX9_mostLeftAt yX9_mostLeftAt, Cond.code yX9_mostLeftAt cX9_mostLeftAt 6 (some .int), Cond.methodLink RX9 80 Lib.Math.max.name, Cond.methodLink RL 112 yX11_look, Cond.instanceMethod yX11_look, Cond.selects RX11 yX11_look yX11_look, Cond.code yX11_look cX11_look 8 (some .int), Cond.methodLink RL 113 yX10_chance]
def wsL_law_r30 : List Cond := [Cond.instanceMethod yX10_chance, Cond.selects RX10 yX10_chance yX10_chance, Cond.code yX10_chance cX10_chance 4 (some .long), Cond.constantLong RX10 248 (-1000000000000000002), Cond.constantLong RX10 250 (-1000000000000000003), Cond.methodLink RX10 252 yX2_reckon, Cond.instanceMethod yX2_reckon, Cond.selects RX2 yX2_reckon yX2_reckon, Cond.code yX2_reckon cX2_reckon 10 none, Cond.constantLong RX2 26 (10), Cond.methodLink RX2 22 yX2_weigh, Cond.instanceMethod yX2_weigh, Cond.selects RX2 yX2_weigh yX2_weigh, Cond.code yX2_weigh cX2_weigh 7 none, Cond.methodLink RX2 28 yX2_commonDivisor, Cond.static yX2_commonDivisor, Cond.code yX2_commonDivisor cX2_commonDivisor 11 (some .long), Cond.methodLink RL 117 yX11_chance, Cond.instanceMethod yX11_chance, Cond.selects RX11 yX11_chance yX11_chance, Cond.code yX11_chance cX11_chance 14 (some .long), Cond.constantLong RX11 187 (-1000000000000000002), Cond.constantLong RX11 189 (-1000000000000000003), Cond.constantLong RX11 191 (10)]
def wsL_law_r31 : List Cond := [Cond.methodLink RL 118 yX10_year, Cond.instanceMethod yX10_year, Cond.selects RX10 yX10_year yX10_year, Cond.code yX10_year cX10_year 4 (some .int), Cond.methodLink RX10 263 yX7_drawYear, Cond.instanceMethod yX7_drawYear, Cond.selects RX7 yX7_drawYear yX7_drawYear, Cond.code yX7_drawYear cX7_drawYear 5 none, Cond.constant RX7 65 (65537), Cond.methodLink RX7 66 yX7_drawnKind, Cond.static yX7_drawnKind, Cond.code yX7_drawnKind cX7_drawnKind 1 (some .int), Cond.fieldLink RX7 72 "WovenRows$Rows" "DRAWN" "[C", Cond.methodLink RX7 69 yX7_attempt, Cond.methodLink RX10 266 yX7_lengthOf, Cond.methodLink RL 121 yX11_year, Cond.instanceMethod yX11_year, Cond.selects RX11 yX11_year yX11_year, Cond.code yX11_year cX11_year 8 (some .int), Cond.constant RX11 193 (65537), Cond.methodLink RL 122 yX10_image, Cond.instanceMethod yX10_image, Cond.selects RX10 yX10_image yX10_image, Cond.code yX10_image cX10_image 2 (some .int)]
def wsL_law_r32 : List Cond := [Cond.methodLink RX10 269 yX10_imageOf, Cond.instanceMethod yX10_imageOf, Cond.selects RX10 yX10_imageOf yX10_imageOf, Cond.code yX10_imageOf cX10_imageOf 2 (some (.object "WovenRows$Town")), Cond.methodLink RL 125 yX11_image, Cond.instanceMethod yX11_image, Cond.selects RX11 yX11_image yX11_image, Cond.code yX11_image cX11_image 4 (some .int), Cond.methodLink RL 126 yX10_restore, Cond.instanceMethod yX10_restore, Cond.selects RX10 yX10_restore yX10_restore, Cond.code yX10_restore cX10_restore 2 (some .int), Cond.methodLink RL 129 yX11_restore, Cond.instanceMethod yX11_restore, Cond.selects RX11 yX11_restore yX11_restore, Cond.code yX11_restore cX11_restore 4 (some .int), Cond.methodLink RL 130 yX10_told, Cond.instanceMethod yX10_told, Cond.selects RX10 yX10_told yX10_told, Cond.code yX10_told cX10_told 2 (some .int), Cond.methodLink RX10 273 yX10_toldCount, Cond.instanceMethod yX10_toldCount, Cond.selects RX10 yX10_toldCount yX10_toldCount, Cond.code yX10_toldCount cX10_toldCount 2 (some .int)]
def wsL_law_r33 : List Cond := [Cond.methodLink RL 133 yX11_told, Cond.instanceMethod yX11_told, Cond.selects RX11 yX11_told yX11_told, Cond.code yX11_told cX11_told 4 (some .int)]
def wsL_law : List Cond := (wsL_law_r1 ++ (wsL_law_r2 ++ (wsL_law_r3 ++ (wsL_law_r4 ++ (wsL_law_r5 ++ (wsL_law_r6 ++ (wsL_law_r7 ++ (wsL_law_r8 ++ (wsL_law_r9 ++ (wsL_law_r10 ++ (wsL_law_r11 ++ (wsL_law_r12 ++ (wsL_law_r13 ++ (wsL_law_r14 ++ (wsL_law_r15 ++ (wsL_law_r16 ++ (wsL_law_r17 ++ (wsL_law_r18 ++ (wsL_law_r19 ++ (wsL_law_r20 ++ (wsL_law_r21 ++ (wsL_law_r22 ++ (wsL_law_r23 ++ (wsL_law_r24 ++ (wsL_law_r25 ++ (wsL_law_r26 ++ (wsL_law_r27 ++ (wsL_law_r28 ++ (wsL_law_r29 ++ (wsL_law_r30 ++ (wsL_law_r31 ++ (wsL_law_r32 ++ wsL_law_r33)))))))))))))))))))))))))))))))) ++ wsX100 ++ wsX110 ++ wsX80 ++ wsX40 ++ wsX60 ++ wsX10 ++ wsX30 ++ wsX90 ++ wsX00 ++ wsX20 ++ wsX70 ++ wsX50 ++ ([] : List Cond)
theorem inJ6 : ∀ w ∈ wsJ60, w ∈ lw_tbl := by decide +kernel
theorem inJ9 : ∀ w ∈ wsJ90, w ∈ lw_tbl := by decide +kernel
theorem dX0_init_0 : decode cX0_init 0 = .ok (.aload_n 0, 1) := by decide +kernel
theorem dX0_init_1 : decode cX0_init 1 = .ok (.invokespecial 3, 3) := by decide +kernel
theorem dX0_init_4 : decode cX0_init 4 = .ok (.aload_n 0, 1) := by decide +kernel
theorem dX0_init_5 : decode cX0_init 5 = .ok (.bipush (-6), 2) := by decide +kernel
theorem dX0_init_7 : decode cX0_init 7 = .ok (.putfield 9, 3) := by decide +kernel
theorem dX0_init_10 : decode cX0_init 10 = .ok (.aload_n 0, 1) := by decide +kernel
theorem dX0_init_11 : decode cX0_init 11 = .ok (.iconst 0, 1) := by decide +kernel
theorem dX0_init_12 : decode cX0_init 12 = .ok (.putfield 15, 3) := by decide +kernel
theorem dX0_init_15 : decode cX0_init 15 = .ok (.return_, 1) := by decide +kernel
theorem dX0_begin_0 : decode cX0_begin 0 = .ok (.aload_n 0, 1) := by decide +kernel
theorem dX0_begin_1 : decode cX0_begin 1 = .ok (.bipush (-6), 2) := by decide +kernel
theorem dX0_begin_3 : decode cX0_begin 3 = .ok (.putfield 9, 3) := by decide +kernel
theorem dX0_begin_6 : decode cX0_begin 6 = .ok (.aload_n 0, 1) := by decide +kernel
theorem dX0_begin_7 : decode cX0_begin 7 = .ok (.iconst 0, 1) := by decide +kernel
theorem dX0_begin_8 : decode cX0_begin 8 = .ok (.putfield 15, 3) := by decide +kernel
theorem dX0_begin_11 : decode cX0_begin 11 = .ok (.return_, 1) := by decide +kernel
theorem dX0_offer_0 : decode cX0_offer 0 = .ok (.aload_n 0, 1) := by decide +kernel
theorem dX0_offer_1 : decode cX0_offer 1 = .ok (.getfield 9, 3) := by decide +kernel
theorem dX0_offer_4 : decode cX0_offer 4 = .ok (.bipush (-6), 2) := by decide +kernel
theorem dX0_offer_6 : decode cX0_offer 6 = .ok (.if_icmp .eq 11, 3) := by decide +kernel
theorem dX0_offer_9 : decode cX0_offer 9 = .ok (.iload_n 2, 1) := by decide +kernel
theorem dX0_offer_10 : decode cX0_offer 10 = .ok (.aload_n 0, 1) := by decide +kernel
theorem dX0_offer_11 : decode cX0_offer 11 = .ok (.getfield 15, 3) := by decide +kernel
theorem dX0_offer_14 : decode cX0_offer 14 = .ok (.if_icmp .ge 13, 3) := by decide +kernel
theorem dX0_offer_17 : decode cX0_offer 17 = .ok (.aload_n 0, 1) := by decide +kernel
theorem dX0_offer_18 : decode cX0_offer 18 = .ok (.iload_n 1, 1) := by decide +kernel
theorem dX0_offer_19 : decode cX0_offer 19 = .ok (.putfield 9, 3) := by decide +kernel
theorem dX0_offer_22 : decode cX0_offer 22 = .ok (.aload_n 0, 1) := by decide +kernel
theorem dX0_offer_23 : decode cX0_offer 23 = .ok (.iload_n 2, 1) := by decide +kernel
theorem dX0_offer_24 : decode cX0_offer 24 = .ok (.putfield 15, 3) := by decide +kernel
theorem dX0_offer_27 : decode cX0_offer 27 = .ok (.return_, 1) := by decide +kernel
theorem dX1_init_0 : decode cX1_init 0 = .ok (.aload_n 0, 1) := by decide +kernel
theorem dX1_init_1 : decode cX1_init 1 = .ok (.invokespecial 3, 3) := by decide +kernel
theorem dX1_init_4 : decode cX1_init 4 = .ok (.aload_n 0, 1) := by decide +kernel
theorem dX1_init_5 : decode cX1_init 5 = .ok (.iconst 0, 1) := by decide +kernel
theorem dX1_init_6 : decode cX1_init 6 = .ok (.putfield 9, 3) := by decide +kernel
theorem dX1_init_9 : decode cX1_init 9 = .ok (.aload_n 0, 1) := by decide +kernel
theorem dX1_init_10 : decode cX1_init 10 = .ok (.iconst 0, 1) := by decide +kernel
theorem dX1_init_11 : decode cX1_init 11 = .ok (.putfield 15, 3) := by decide +kernel
theorem dX1_init_14 : decode cX1_init 14 = .ok (.aload_n 0, 1) := by decide +kernel
theorem dX1_init_15 : decode cX1_init 15 = .ok (.bipush (-6), 2) := by decide +kernel
theorem dX1_init_17 : decode cX1_init 17 = .ok (.putfield 18, 3) := by decide +kernel
theorem dX1_init_20 : decode cX1_init 20 = .ok (.aload_n 0, 1) := by decide +kernel
theorem dX1_init_21 : decode cX1_init 21 = .ok (.bipush (-6), 2) := by decide +kernel
theorem dX1_init_23 : decode cX1_init 23 = .ok (.putfield 21, 3) := by decide +kernel
theorem dX1_init_26 : decode cX1_init 26 = .ok (.aload_n 0, 1) := by decide +kernel
theorem dX1_init_27 : decode cX1_init 27 = .ok (.iconst 0, 1) := by decide +kernel
theorem dX1_init_28 : decode cX1_init 28 = .ok (.putfield 24, 3) := by decide +kernel
theorem dX1_init_31 : decode cX1_init 31 = .ok (.return_, 1) := by decide +kernel
set_option maxRecDepth 20000 in
theorem ggX1_count_X10_at : GoodIn wsX1_count wsX10_at := goodIn_r _ [7] (by decide +kernel) (by decide +kernel)
set_option maxRecDepth 20000 in
theorem gX1_count_X10_at_n39 : GoodIn wsX1_count (wsX10_at) := ggX1_count_X10_at
set_option maxRecDepth 20000 in
theorem ggX1_count_X1_countOf : GoodIn wsX1_count wsX1_countOf := goodIn_r _ [12, 1, 13, 14, 15, 16, 17, 18, 19, 5, 6, 7, 20, 21, 22, 23, 24, 25, 26, 27, 28, 29, 30, 31, 32, 33, 34, 35, 36, 37, 11, 38, 2, 39, 3, 4, 45, 46, 47, 48, 49, 50, 51, 52, 53, 54, 40, 41, 42, 43, 44] (by decide +kernel) (by decide +kernel)
set_option maxRecDepth 20000 in
theorem gX1_count_X1_countOf : GoodIn wsX1_count (wsV RX1 43 RX1 yX1_countOf wsX1_countOf) := goodIn_app (goodIn_of _ (by decide +kernel)) ggX1_count_X1_countOf
theorem dX1_count_0 : decode cX1_count 0 = .ok (.aload_n 0, 1) := by decide +kernel
theorem dX1_count_1 : decode cX1_count 1 = .ok (.iconst 0, 1) := by decide +kernel
theorem dX1_count_2 : decode cX1_count 2 = .ok (.putfield 9, 3) := by decide +kernel
theorem dX1_count_5 : decode cX1_count 5 = .ok (.aload_n 0, 1) := by decide +kernel
theorem dX1_count_6 : decode cX1_count 6 = .ok (.iconst 0, 1) := by decide +kernel
theorem dX1_count_7 : decode cX1_count 7 = .ok (.putfield 15, 3) := by decide +kernel
theorem dX1_count_10 : decode cX1_count 10 = .ok (.aload_n 0, 1) := by decide +kernel
theorem dX1_count_11 : decode cX1_count 11 = .ok (.bipush (-6), 2) := by decide +kernel
theorem dX1_count_13 : decode cX1_count 13 = .ok (.putfield 18, 3) := by decide +kernel
theorem dX1_count_16 : decode cX1_count 16 = .ok (.aload_n 0, 1) := by decide +kernel
theorem dX1_count_17 : decode cX1_count 17 = .ok (.bipush (-6), 2) := by decide +kernel
theorem dX1_count_19 : decode cX1_count 19 = .ok (.putfield 21, 3) := by decide +kernel
theorem dX1_count_22 : decode cX1_count 22 = .ok (.aload_n 1, 1) := by decide +kernel
theorem dX1_count_23 : decode cX1_count 23 = .ok (.ifnonnull 4, 3) := by decide +kernel
theorem dX1_count_26 : decode cX1_count 26 = .ok (.return_, 1) := by decide +kernel
theorem dX1_count_27 : decode cX1_count 27 = .ok (.iconst 0, 1) := by decide +kernel
theorem dX1_count_28 : decode cX1_count 28 = .ok (.istore_n 2, 1) := by decide +kernel
theorem dX1_count_29 : decode cX1_count 29 = .ok (.iload_n 2, 1) := by decide +kernel
theorem dX1_count_30 : decode cX1_count 30 = .ok (.bipush 10, 2) := by decide +kernel
theorem dX1_count_32 : decode cX1_count 32 = .ok (.if_icmp .ge 29, 3) := by decide +kernel
theorem dX1_count_35 : decode cX1_count 35 = .ok (.aload_n 1, 1) := by decide +kernel
theorem dX1_count_36 : decode cX1_count 36 = .ok (.getfield 27, 3) := by decide +kernel
theorem dX1_count_39 : decode cX1_count 39 = .ok (.getfield 33, 3) := by decide +kernel
theorem dX1_count_42 : decode cX1_count 42 = .ok (.iload_n 2, 1) := by decide +kernel
theorem dX1_count_43 : decode cX1_count 43 = .ok (.invokestatic 39, 3) := by decide +kernel
theorem dX1_count_46 : decode cX1_count 46 = .ok (.ifCond .ne 9, 3) := by decide +kernel
theorem dX1_count_49 : decode cX1_count 49 = .ok (.aload_n 0, 1) := by decide +kernel
theorem dX1_count_50 : decode cX1_count 50 = .ok (.aload_n 1, 1) := by decide +kernel
theorem dX1_count_51 : decode cX1_count 51 = .ok (.iload_n 2, 1) := by decide +kernel
theorem dX1_count_52 : decode cX1_count 52 = .ok (.invokevirtual 43, 3) := by decide +kernel
theorem dX1_count_55 : decode cX1_count 55 = .ok (.iinc 2 1, 3) := by decide +kernel
theorem dX1_count_58 : decode cX1_count 58 = .ok (.goto (-29), 3) := by decide +kernel
theorem dX1_count_61 : decode cX1_count 61 = .ok (.return_, 1) := by decide +kernel
set_option maxRecDepth 20000 in
theorem ggX1_countOf_X8_startOf : GoodIn wsX1_countOf wsX8_startOf := goodIn_r _ [6, 7, 8, 9, 10, 11, 36, 37, 38, 39, 40, 41, 42, 43, 44, 45] (by decide +kernel) (by decide +kernel)
set_option maxRecDepth 20000 in
theorem gX1_countOf_X8_startOf : GoodIn wsX1_countOf (wsV RX1 47 RX8 yX8_startOf wsX8_startOf) := goodIn_app (goodIn_of _ (by decide +kernel)) ggX1_countOf_X8_startOf
set_option maxRecDepth 20000 in
theorem ggX1_countOf_X10_at : GoodIn wsX1_countOf wsX10_at := goodIn_r _ [11] (by decide +kernel) (by decide +kernel)
set_option maxRecDepth 20000 in
theorem gX1_countOf_X10_at_n39 : GoodIn wsX1_countOf (wsX10_at) := ggX1_countOf_X10_at
set_option maxRecDepth 20000 in
theorem ggX1_countOf_X8_spotOf : GoodIn wsX1_countOf wsX8_spotOf := goodIn_r _ [14, 15, 10, 16] (by decide +kernel) (by decide +kernel)
set_option maxRecDepth 20000 in
theorem gX1_countOf_X8_spotOf : GoodIn wsX1_countOf (va_wsS RX1 51 yX8_spotOf wsX8_spotOf) := goodIn_app (goodIn_of _ (by decide +kernel)) ggX1_countOf_X8_spotOf
set_option maxRecDepth 20000 in
theorem ggX1_countOf_X8_clash : GoodIn wsX1_countOf wsX8_clash := goodIn_r _ [20, 21, 22, 23, 24, 25, 26, 9, 10, 11, 36, 37, 38, 39, 40, 41, 42] (by decide +kernel) (by decide +kernel)
set_option maxRecDepth 20000 in
theorem gX1_countOf_X8_clash : GoodIn wsX1_countOf (wsV RX1 55 RX8 yX8_clash wsX8_clash) := goodIn_app (goodIn_of _ (by decide +kernel)) ggX1_countOf_X8_clash
set_option maxRecDepth 20000 in
theorem ggX1_countOf_X1_noteClash : GoodIn wsX1_countOf wsX1_noteClash := goodIn_r _ [31, 32, 33, 34, 35, 46, 47, 48, 49, 50] (by decide +kernel) (by decide +kernel)
set_option maxRecDepth 20000 in
theorem gX1_countOf_X1_noteClash : GoodIn wsX1_countOf (wsV RX1 62 RX1 yX1_noteClash wsX1_noteClash) := goodIn_app (goodIn_of _ (by decide +kernel)) ggX1_countOf_X1_noteClash
theorem dX1_countOf_0 : decode cX1_countOf 0 = .ok (.aload_n 1, 1) := by decide +kernel
theorem dX1_countOf_1 : decode cX1_countOf 1 = .ok (.iload_n 2, 1) := by decide +kernel
theorem dX1_countOf_2 : decode cX1_countOf 2 = .ok (.invokevirtual 47, 3) := by decide +kernel
theorem dX1_countOf_5 : decode cX1_countOf 5 = .ok (.istore_n 3, 1) := by decide +kernel
theorem dX1_countOf_6 : decode cX1_countOf 6 = .ok (.iconst 0, 1) := by decide +kernel
theorem dX1_countOf_7 : decode cX1_countOf 7 = .ok (.istore 4, 2) := by decide +kernel
theorem dX1_countOf_9 : decode cX1_countOf 9 = .ok (.iload 4, 2) := by decide +kernel
theorem dX1_countOf_11 : decode cX1_countOf 11 = .ok (.bipush 10, 2) := by decide +kernel
theorem dX1_countOf_13 : decode cX1_countOf 13 = .ok (.if_icmp .ge 109, 3) := by decide +kernel
theorem dX1_countOf_16 : decode cX1_countOf 16 = .ok (.aload_n 1, 1) := by decide +kernel
theorem dX1_countOf_17 : decode cX1_countOf 17 = .ok (.getfield 27, 3) := by decide +kernel
theorem dX1_countOf_20 : decode cX1_countOf 20 = .ok (.getfield 33, 3) := by decide +kernel
theorem dX1_countOf_23 : decode cX1_countOf 23 = .ok (.iload 4, 2) := by decide +kernel
theorem dX1_countOf_25 : decode cX1_countOf 25 = .ok (.invokestatic 39, 3) := by decide +kernel
theorem dX1_countOf_28 : decode cX1_countOf 28 = .ok (.iconst 1, 1) := by decide +kernel
theorem dX1_countOf_29 : decode cX1_countOf 29 = .ok (.if_icmp .eq 6, 3) := by decide +kernel
theorem dX1_countOf_32 : decode cX1_countOf 32 = .ok (.goto 84, 3) := by decide +kernel
theorem dX1_countOf_35 : decode cX1_countOf 35 = .ok (.iload_n 3, 1) := by decide +kernel
theorem dX1_countOf_36 : decode cX1_countOf 36 = .ok (.aload_n 1, 1) := by decide +kernel
theorem dX1_countOf_37 : decode cX1_countOf 37 = .ok (.iload 4, 2) := by decide +kernel
theorem dX1_countOf_39 : decode cX1_countOf 39 = .ok (.invokevirtual 47, 3) := by decide +kernel
theorem dX1_countOf_42 : decode cX1_countOf 42 = .ok (.invokestatic 51, 3) := by decide +kernel
theorem dX1_countOf_45 : decode cX1_countOf 45 = .ok (.istore 5, 2) := by decide +kernel
theorem dX1_countOf_47 : decode cX1_countOf 47 = .ok (.iload 5, 2) := by decide +kernel
theorem dX1_countOf_49 : decode cX1_countOf 49 = .ok (.bipush (-6), 2) := by decide +kernel
theorem dX1_countOf_51 : decode cX1_countOf 51 = .ok (.if_icmp .eq 13, 3) := by decide +kernel
theorem dX1_countOf_54 : decode cX1_countOf 54 = .ok (.aload_n 0, 1) := by decide +kernel
theorem dX1_countOf_55 : decode cX1_countOf 55 = .ok (.dup, 1) := by decide +kernel
theorem dX1_countOf_56 : decode cX1_countOf 56 = .ok (.getfield 9, 3) := by decide +kernel
theorem dX1_countOf_59 : decode cX1_countOf 59 = .ok (.iconst 1, 1) := by decide +kernel
theorem dX1_countOf_60 : decode cX1_countOf 60 = .ok (.iadd, 1) := by decide +kernel
theorem dX1_countOf_61 : decode cX1_countOf 61 = .ok (.putfield 9, 3) := by decide +kernel
theorem dX1_countOf_64 : decode cX1_countOf 64 = .ok (.aload_n 1, 1) := by decide +kernel
theorem dX1_countOf_65 : decode cX1_countOf 65 = .ok (.iload 5, 2) := by decide +kernel
theorem dX1_countOf_67 : decode cX1_countOf 67 = .ok (.iload_n 2, 1) := by decide +kernel
theorem dX1_countOf_68 : decode cX1_countOf 68 = .ok (.iload 4, 2) := by decide +kernel
theorem dX1_countOf_70 : decode cX1_countOf 70 = .ok (.invokevirtual 55, 3) := by decide +kernel
theorem dX1_countOf_73 : decode cX1_countOf 73 = .ok (.ifCond .eq 43, 3) := by decide +kernel
theorem dX1_countOf_76 : decode cX1_countOf 76 = .ok (.iload_n 3, 1) := by decide +kernel
theorem dX1_countOf_77 : decode cX1_countOf 77 = .ok (.aload_n 1, 1) := by decide +kernel
theorem dX1_countOf_78 : decode cX1_countOf 78 = .ok (.iload 4, 2) := by decide +kernel
theorem dX1_countOf_80 : decode cX1_countOf 80 = .ok (.invokevirtual 47, 3) := by decide +kernel
theorem dX1_countOf_83 : decode cX1_countOf 83 = .ok (.iadd, 1) := by decide +kernel
theorem dX1_countOf_84 : decode cX1_countOf 84 = .ok (.bipush 6, 2) := by decide +kernel
theorem dX1_countOf_86 : decode cX1_countOf 86 = .ok (.imul, 1) := by decide +kernel
theorem dX1_countOf_87 : decode cX1_countOf 87 = .ok (.aload_n 1, 1) := by decide +kernel
theorem dX1_countOf_88 : decode cX1_countOf 88 = .ok (.getfield 27, 3) := by decide +kernel
theorem dX1_countOf_91 : decode cX1_countOf 91 = .ok (.getfield 59, 3) := by decide +kernel
theorem dX1_countOf_94 : decode cX1_countOf 94 = .ok (.iload_n 2, 1) := by decide +kernel
theorem dX1_countOf_95 : decode cX1_countOf 95 = .ok (.invokestatic 39, 3) := by decide +kernel
theorem dX1_countOf_98 : decode cX1_countOf 98 = .ok (.iadd, 1) := by decide +kernel
theorem dX1_countOf_99 : decode cX1_countOf 99 = .ok (.istore 6, 2) := by decide +kernel
theorem dX1_countOf_101 : decode cX1_countOf 101 = .ok (.aload_n 0, 1) := by decide +kernel
theorem dX1_countOf_102 : decode cX1_countOf 102 = .ok (.bipush 10, 2) := by decide +kernel
theorem dX1_countOf_104 : decode cX1_countOf 104 = .ok (.iload_n 2, 1) := by decide +kernel
theorem dX1_countOf_105 : decode cX1_countOf 105 = .ok (.imul, 1) := by decide +kernel
theorem dX1_countOf_106 : decode cX1_countOf 106 = .ok (.iload 4, 2) := by decide +kernel
theorem dX1_countOf_108 : decode cX1_countOf 108 = .ok (.iadd, 1) := by decide +kernel
theorem dX1_countOf_109 : decode cX1_countOf 109 = .ok (.iload 5, 2) := by decide +kernel
theorem dX1_countOf_111 : decode cX1_countOf 111 = .ok (.iload 6, 2) := by decide +kernel
theorem dX1_countOf_113 : decode cX1_countOf 113 = .ok (.invokevirtual 62, 3) := by decide +kernel
theorem dX1_countOf_116 : decode cX1_countOf 116 = .ok (.iinc 4 1, 3) := by decide +kernel
theorem dX1_countOf_119 : decode cX1_countOf 119 = .ok (.goto (-110), 3) := by decide +kernel
theorem dX1_countOf_122 : decode cX1_countOf 122 = .ok (.return_, 1) := by decide +kernel
theorem dX1_noteClash_0 : decode cX1_noteClash 0 = .ok (.aload_n 0, 1) := by decide +kernel
theorem dX1_noteClash_1 : decode cX1_noteClash 1 = .ok (.getfield 15, 3) := by decide +kernel
theorem dX1_noteClash_4 : decode cX1_noteClash 4 = .ok (.ifCond .eq 11, 3) := by decide +kernel
theorem dX1_noteClash_7 : decode cX1_noteClash 7 = .ok (.iload_n 3, 1) := by decide +kernel
theorem dX1_noteClash_8 : decode cX1_noteClash 8 = .ok (.aload_n 0, 1) := by decide +kernel
theorem dX1_noteClash_9 : decode cX1_noteClash 9 = .ok (.getfield 24, 3) := by decide +kernel
theorem dX1_noteClash_12 : decode cX1_noteClash 12 = .ok (.if_icmp .ge 18, 3) := by decide +kernel
theorem dX1_noteClash_15 : decode cX1_noteClash 15 = .ok (.aload_n 0, 1) := by decide +kernel
theorem dX1_noteClash_16 : decode cX1_noteClash 16 = .ok (.iload_n 1, 1) := by decide +kernel
theorem dX1_noteClash_17 : decode cX1_noteClash 17 = .ok (.putfield 18, 3) := by decide +kernel
theorem dX1_noteClash_20 : decode cX1_noteClash 20 = .ok (.aload_n 0, 1) := by decide +kernel
theorem dX1_noteClash_21 : decode cX1_noteClash 21 = .ok (.iload_n 2, 1) := by decide +kernel
theorem dX1_noteClash_22 : decode cX1_noteClash 22 = .ok (.putfield 21, 3) := by decide +kernel
theorem dX1_noteClash_25 : decode cX1_noteClash 25 = .ok (.aload_n 0, 1) := by decide +kernel
theorem dX1_noteClash_26 : decode cX1_noteClash 26 = .ok (.iload_n 3, 1) := by decide +kernel
theorem dX1_noteClash_27 : decode cX1_noteClash 27 = .ok (.putfield 24, 3) := by decide +kernel
theorem dX1_noteClash_30 : decode cX1_noteClash 30 = .ok (.aload_n 0, 1) := by decide +kernel
theorem dX1_noteClash_31 : decode cX1_noteClash 31 = .ok (.dup, 1) := by decide +kernel
theorem dX1_noteClash_32 : decode cX1_noteClash 32 = .ok (.getfield 15, 3) := by decide +kernel
theorem dX1_noteClash_35 : decode cX1_noteClash 35 = .ok (.iconst 1, 1) := by decide +kernel
theorem dX1_noteClash_36 : decode cX1_noteClash 36 = .ok (.iadd, 1) := by decide +kernel
theorem dX1_noteClash_37 : decode cX1_noteClash 37 = .ok (.putfield 15, 3) := by decide +kernel
theorem dX1_noteClash_40 : decode cX1_noteClash 40 = .ok (.return_, 1) := by decide +kernel
set_option maxRecDepth 20000 in
theorem ggX1_grating_X10_at : GoodIn wsX1_grating wsX10_at := goodIn_r _ [3] (by decide +kernel) (by decide +kernel)
set_option maxRecDepth 20000 in
theorem gX1_grating_X10_at_n39 : GoodIn wsX1_grating (wsX10_at) := ggX1_grating_X10_at
set_option maxRecDepth 20000 in
theorem ggX1_grating_X1_gratingWith : GoodIn wsX1_grating wsX1_gratingWith := goodIn_r _ [7, 8, 9, 10, 11, 1, 2, 3, 12, 13, 14, 15, 16, 17, 18, 19, 20, 21, 22, 23, 24, 25, 26, 27, 28, 29, 30, 31, 32, 33] (by decide +kernel) (by decide +kernel)
set_option maxRecDepth 20000 in
theorem gX1_grating_X1_gratingWith : GoodIn wsX1_grating (va_wsS RX1 69 yX1_gratingWith wsX1_gratingWith) := goodIn_app (goodIn_of _ (by decide +kernel)) ggX1_grating_X1_gratingWith
theorem dX1_grating_0 : decode cX1_grating 0 = .ok (.iconst 0, 1) := by decide +kernel
theorem dX1_grating_1 : decode cX1_grating 1 = .ok (.istore_n 3, 1) := by decide +kernel
theorem dX1_grating_2 : decode cX1_grating 2 = .ok (.aload_n 1, 1) := by decide +kernel
theorem dX1_grating_3 : decode cX1_grating 3 = .ok (.ifnonnull 5, 3) := by decide +kernel
theorem dX1_grating_6 : decode cX1_grating 6 = .ok (.iload_n 3, 1) := by decide +kernel
theorem dX1_grating_7 : decode cX1_grating 7 = .ok (.ireturn, 1) := by decide +kernel
theorem dX1_grating_8 : decode cX1_grating 8 = .ok (.iconst 0, 1) := by decide +kernel
theorem dX1_grating_9 : decode cX1_grating 9 = .ok (.istore 4, 2) := by decide +kernel
theorem dX1_grating_11 : decode cX1_grating 11 = .ok (.iload 4, 2) := by decide +kernel
theorem dX1_grating_13 : decode cX1_grating 13 = .ok (.bipush 10, 2) := by decide +kernel
theorem dX1_grating_15 : decode cX1_grating 15 = .ok (.if_icmp .ge 48, 3) := by decide +kernel
theorem dX1_grating_18 : decode cX1_grating 18 = .ok (.aload_n 1, 1) := by decide +kernel
theorem dX1_grating_19 : decode cX1_grating 19 = .ok (.getfield 27, 3) := by decide +kernel
theorem dX1_grating_22 : decode cX1_grating 22 = .ok (.getfield 33, 3) := by decide +kernel
theorem dX1_grating_25 : decode cX1_grating 25 = .ok (.iload 4, 2) := by decide +kernel
theorem dX1_grating_27 : decode cX1_grating 27 = .ok (.invokestatic 39, 3) := by decide +kernel
theorem dX1_grating_30 : decode cX1_grating 30 = .ok (.ifCond .ne 27, 3) := by decide +kernel
theorem dX1_grating_33 : decode cX1_grating 33 = .ok (.aload_n 1, 1) := by decide +kernel
theorem dX1_grating_34 : decode cX1_grating 34 = .ok (.getfield 66, 3) := by decide +kernel
theorem dX1_grating_37 : decode cX1_grating 37 = .ok (.iload 4, 2) := by decide +kernel
theorem dX1_grating_39 : decode cX1_grating 39 = .ok (.invokestatic 39, 3) := by decide +kernel
theorem dX1_grating_42 : decode cX1_grating 42 = .ok (.bipush 12, 2) := by decide +kernel
theorem dX1_grating_44 : decode cX1_grating 44 = .ok (.if_icmp .eq 13, 3) := by decide +kernel
theorem dX1_grating_47 : decode cX1_grating 47 = .ok (.iload_n 3, 1) := by decide +kernel
theorem dX1_grating_48 : decode cX1_grating 48 = .ok (.aload_n 1, 1) := by decide +kernel
theorem dX1_grating_49 : decode cX1_grating 49 = .ok (.iload 4, 2) := by decide +kernel
theorem dX1_grating_51 : decode cX1_grating 51 = .ok (.iload_n 2, 1) := by decide +kernel
theorem dX1_grating_52 : decode cX1_grating 52 = .ok (.invokestatic 69, 3) := by decide +kernel
theorem dX1_grating_55 : decode cX1_grating 55 = .ok (.iadd, 1) := by decide +kernel
theorem dX1_grating_56 : decode cX1_grating 56 = .ok (.istore_n 3, 1) := by decide +kernel
theorem dX1_grating_57 : decode cX1_grating 57 = .ok (.iinc 4 1, 3) := by decide +kernel
theorem dX1_grating_60 : decode cX1_grating 60 = .ok (.goto (-49), 3) := by decide +kernel
theorem dX1_grating_63 : decode cX1_grating 63 = .ok (.iload_n 3, 1) := by decide +kernel
theorem dX1_grating_64 : decode cX1_grating 64 = .ok (.ireturn, 1) := by decide +kernel
set_option maxRecDepth 20000 in
theorem ggX1_gratingWith_X10_at : GoodIn wsX1_gratingWith wsX10_at := goodIn_r _ [7] (by decide +kernel) (by decide +kernel)
set_option maxRecDepth 20000 in
theorem gX1_gratingWith_X10_at_n39 : GoodIn wsX1_gratingWith (wsX10_at) := ggX1_gratingWith_X10_at
set_option maxRecDepth 20000 in
theorem ggX1_gratingWith_X8_startOf : GoodIn wsX1_gratingWith wsX8_startOf := goodIn_r _ [12, 13, 14, 5, 6, 7, 20, 21, 22, 23, 24, 25, 26, 27, 28, 29] (by decide +kernel) (by decide +kernel)
set_option maxRecDepth 20000 in
theorem gX1_gratingWith_X8_startOf : GoodIn wsX1_gratingWith (wsV RX1 47 RX8 yX8_startOf wsX8_startOf) := goodIn_app (goodIn_of _ (by decide +kernel)) ggX1_gratingWith_X8_startOf
set_option maxRecDepth 20000 in
theorem ggX1_gratingWith_X8_spotOf : GoodIn wsX1_gratingWith wsX8_spotOf := goodIn_r _ [17, 18, 6, 19] (by decide +kernel) (by decide +kernel)
set_option maxRecDepth 20000 in
theorem gX1_gratingWith_X8_spotOf : GoodIn wsX1_gratingWith (va_wsS RX1 51 yX8_spotOf wsX8_spotOf) := goodIn_app (goodIn_of _ (by decide +kernel)) ggX1_gratingWith_X8_spotOf
theorem dX1_gratingWith_0 : decode cX1_gratingWith 0 = .ok (.iconst 0, 1) := by decide +kernel
theorem dX1_gratingWith_1 : decode cX1_gratingWith 1 = .ok (.istore_n 3, 1) := by decide +kernel
theorem dX1_gratingWith_2 : decode cX1_gratingWith 2 = .ok (.iconst 0, 1) := by decide +kernel
theorem dX1_gratingWith_3 : decode cX1_gratingWith 3 = .ok (.istore 4, 2) := by decide +kernel
theorem dX1_gratingWith_5 : decode cX1_gratingWith 5 = .ok (.iload 4, 2) := by decide +kernel
theorem dX1_gratingWith_7 : decode cX1_gratingWith 7 = .ok (.bipush 10, 2) := by decide +kernel
theorem dX1_gratingWith_9 : decode cX1_gratingWith 9 = .ok (.if_icmp .ge 115, 3) := by decide +kernel
theorem dX1_gratingWith_12 : decode cX1_gratingWith 12 = .ok (.aload_n 0, 1) := by decide +kernel
theorem dX1_gratingWith_13 : decode cX1_gratingWith 13 = .ok (.getfield 27, 3) := by decide +kernel
theorem dX1_gratingWith_16 : decode cX1_gratingWith 16 = .ok (.getfield 33, 3) := by decide +kernel
theorem dX1_gratingWith_19 : decode cX1_gratingWith 19 = .ok (.iload 4, 2) := by decide +kernel
theorem dX1_gratingWith_21 : decode cX1_gratingWith 21 = .ok (.invokestatic 39, 3) := by decide +kernel
theorem dX1_gratingWith_24 : decode cX1_gratingWith 24 = .ok (.iconst 1, 1) := by decide +kernel
theorem dX1_gratingWith_25 : decode cX1_gratingWith 25 = .ok (.if_icmp .ne 93, 3) := by decide +kernel
theorem dX1_gratingWith_28 : decode cX1_gratingWith 28 = .ok (.aload_n 0, 1) := by decide +kernel
theorem dX1_gratingWith_29 : decode cX1_gratingWith 29 = .ok (.getfield 66, 3) := by decide +kernel
theorem dX1_gratingWith_32 : decode cX1_gratingWith 32 = .ok (.iload 4, 2) := by decide +kernel
theorem dX1_gratingWith_34 : decode cX1_gratingWith 34 = .ok (.invokestatic 39, 3) := by decide +kernel
theorem dX1_gratingWith_37 : decode cX1_gratingWith 37 = .ok (.bipush 12, 2) := by decide +kernel
theorem dX1_gratingWith_39 : decode cX1_gratingWith 39 = .ok (.if_icmp .ne 6, 3) := by decide +kernel
theorem dX1_gratingWith_42 : decode cX1_gratingWith 42 = .ok (.goto 76, 3) := by decide +kernel
theorem dX1_gratingWith_45 : decode cX1_gratingWith 45 = .ok (.aload_n 0, 1) := by decide +kernel
theorem dX1_gratingWith_46 : decode cX1_gratingWith 46 = .ok (.iload_n 1, 1) := by decide +kernel
theorem dX1_gratingWith_47 : decode cX1_gratingWith 47 = .ok (.invokevirtual 47, 3) := by decide +kernel
theorem dX1_gratingWith_50 : decode cX1_gratingWith 50 = .ok (.aload_n 0, 1) := by decide +kernel
theorem dX1_gratingWith_51 : decode cX1_gratingWith 51 = .ok (.iload 4, 2) := by decide +kernel
theorem dX1_gratingWith_53 : decode cX1_gratingWith 53 = .ok (.invokevirtual 47, 3) := by decide +kernel
theorem dX1_gratingWith_56 : decode cX1_gratingWith 56 = .ok (.invokestatic 51, 3) := by decide +kernel
theorem dX1_gratingWith_59 : decode cX1_gratingWith 59 = .ok (.bipush (-6), 2) := by decide +kernel
theorem dX1_gratingWith_61 : decode cX1_gratingWith 61 = .ok (.if_icmp .ne 6, 3) := by decide +kernel
theorem dX1_gratingWith_64 : decode cX1_gratingWith 64 = .ok (.goto 54, 3) := by decide +kernel
theorem dX1_gratingWith_67 : decode cX1_gratingWith 67 = .ok (.aload_n 0, 1) := by decide +kernel
theorem dX1_gratingWith_68 : decode cX1_gratingWith 68 = .ok (.getfield 66, 3) := by decide +kernel
theorem dX1_gratingWith_71 : decode cX1_gratingWith 71 = .ok (.iload_n 1, 1) := by decide +kernel
theorem dX1_gratingWith_72 : decode cX1_gratingWith 72 = .ok (.invokestatic 39, 3) := by decide +kernel
theorem dX1_gratingWith_75 : decode cX1_gratingWith 75 = .ok (.aload_n 0, 1) := by decide +kernel
theorem dX1_gratingWith_76 : decode cX1_gratingWith 76 = .ok (.getfield 66, 3) := by decide +kernel
theorem dX1_gratingWith_79 : decode cX1_gratingWith 79 = .ok (.iload 4, 2) := by decide +kernel
theorem dX1_gratingWith_81 : decode cX1_gratingWith 81 = .ok (.invokestatic 39, 3) := by decide +kernel
theorem dX1_gratingWith_84 : decode cX1_gratingWith 84 = .ok (.iload_n 2, 1) := by decide +kernel
theorem dX1_gratingWith_85 : decode cX1_gratingWith 85 = .ok (.iadd, 1) := by decide +kernel
theorem dX1_gratingWith_86 : decode cX1_gratingWith 86 = .ok (.bipush 12, 2) := by decide +kernel
theorem dX1_gratingWith_88 : decode cX1_gratingWith 88 = .ok (.irem, 1) := by decide +kernel
theorem dX1_gratingWith_89 : decode cX1_gratingWith 89 = .ok (.isub, 1) := by decide +kernel
theorem dX1_gratingWith_90 : decode cX1_gratingWith 90 = .ok (.invokestatic 73, 3) := by decide +kernel
theorem dX1_gratingWith_93 : decode cX1_gratingWith 93 = .ok (.istore 5, 2) := by decide +kernel
theorem dX1_gratingWith_95 : decode cX1_gratingWith 95 = .ok (.iload 5, 2) := by decide +kernel
theorem dX1_gratingWith_97 : decode cX1_gratingWith 97 = .ok (.iconst 1, 1) := by decide +kernel
theorem dX1_gratingWith_98 : decode cX1_gratingWith 98 = .ok (.if_icmp .eq 17, 3) := by decide +kernel
theorem dX1_gratingWith_101 : decode cX1_gratingWith 101 = .ok (.iload 5, 2) := by decide +kernel
theorem dX1_gratingWith_103 : decode cX1_gratingWith 103 = .ok (.bipush 6, 2) := by decide +kernel
theorem dX1_gratingWith_105 : decode cX1_gratingWith 105 = .ok (.if_icmp .eq 10, 3) := by decide +kernel
theorem dX1_gratingWith_108 : decode cX1_gratingWith 108 = .ok (.iload 5, 2) := by decide +kernel
theorem dX1_gratingWith_110 : decode cX1_gratingWith 110 = .ok (.bipush 11, 2) := by decide +kernel
theorem dX1_gratingWith_112 : decode cX1_gratingWith 112 = .ok (.if_icmp .ne 6, 3) := by decide +kernel
theorem dX1_gratingWith_115 : decode cX1_gratingWith 115 = .ok (.iinc 3 1, 3) := by decide +kernel
theorem dX1_gratingWith_118 : decode cX1_gratingWith 118 = .ok (.iinc 4 1, 3) := by decide +kernel
theorem dX1_gratingWith_121 : decode cX1_gratingWith 121 = .ok (.goto (-116), 3) := by decide +kernel
theorem dX1_gratingWith_124 : decode cX1_gratingWith 124 = .ok (.iload_n 3, 1) := by decide +kernel
theorem dX1_gratingWith_125 : decode cX1_gratingWith 125 = .ok (.ireturn, 1) := by decide +kernel
theorem dX2_init_0 : decode cX2_init 0 = .ok (.aload_n 0, 1) := by decide +kernel
theorem dX2_init_1 : decode cX2_init 1 = .ok (.invokespecial 3, 3) := by decide +kernel
theorem dX2_init_4 : decode cX2_init 4 = .ok (.aload_n 0, 1) := by decide +kernel
theorem dX2_init_5 : decode cX2_init 5 = .ok (.bipush 13, 2) := by decide +kernel
theorem dX2_init_7 : decode cX2_init 7 = .ok (.newarray .long, 2) := by decide +kernel
theorem dX2_init_9 : decode cX2_init 9 = .ok (.putfield 9, 3) := by decide +kernel
theorem dX2_init_12 : decode cX2_init 12 = .ok (.aload_n 0, 1) := by decide +kernel
theorem dX2_init_13 : decode cX2_init 13 = .ok (.lconst 0, 1) := by decide +kernel
theorem dX2_init_14 : decode cX2_init 14 = .ok (.putfield 15, 3) := by decide +kernel
theorem dX2_init_17 : decode cX2_init 17 = .ok (.aload_n 0, 1) := by decide +kernel
theorem dX2_init_18 : decode cX2_init 18 = .ok (.lconst 1, 1) := by decide +kernel
theorem dX2_init_19 : decode cX2_init 19 = .ok (.putfield 19, 3) := by decide +kernel
theorem dX2_init_22 : decode cX2_init 22 = .ok (.return_, 1) := by decide +kernel
set_option maxRecDepth 20000 in
theorem ggX2_reckon_X2_weigh : GoodIn wsX2_reckon wsX2_weigh := goodIn_r _ [9, 1, 13, 14, 15] (by decide +kernel) (by decide +kernel)
set_option maxRecDepth 20000 in
theorem gX2_reckon_X2_weigh : GoodIn wsX2_reckon (wsV RX2 22 RX2 yX2_weigh wsX2_weigh) := goodIn_app (goodIn_of _ (by decide +kernel)) ggX2_reckon_X2_weigh
set_option maxRecDepth 20000 in
theorem ggX2_reckon_X2_commonDivisor : GoodIn wsX2_reckon wsX2_commonDivisor := goodIn_r _ [12] (by decide +kernel) (by decide +kernel)
set_option maxRecDepth 20000 in
theorem gX2_reckon_X2_commonDivisor : GoodIn wsX2_reckon (va_wsS RX2 28 yX2_commonDivisor wsX2_commonDivisor) := goodIn_app (goodIn_of _ (by decide +kernel)) ggX2_reckon_X2_commonDivisor
theorem dX2_reckon_0 : decode cX2_reckon 0 = .ok (.aload_n 0, 1) := by decide +kernel
theorem dX2_reckon_1 : decode cX2_reckon 1 = .ok (.iload_n 1, 1) := by decide +kernel
theorem dX2_reckon_2 : decode cX2_reckon 2 = .ok (.iload_n 2, 1) := by decide +kernel
theorem dX2_reckon_3 : decode cX2_reckon 3 = .ok (.invokevirtual 22, 3) := by decide +kernel
theorem dX2_reckon_6 : decode cX2_reckon 6 = .ok (.lconst 0, 1) := by decide +kernel
theorem dX2_reckon_7 : decode cX2_reckon 7 = .ok (.lstore 4, 2) := by decide +kernel
theorem dX2_reckon_9 : decode cX2_reckon 9 = .ok (.iconst 0, 1) := by decide +kernel
theorem dX2_reckon_10 : decode cX2_reckon 10 = .ok (.istore 6, 2) := by decide +kernel
theorem dX2_reckon_12 : decode cX2_reckon 12 = .ok (.iload 6, 2) := by decide +kernel
theorem dX2_reckon_14 : decode cX2_reckon 14 = .ok (.aload_n 0, 1) := by decide +kernel
theorem dX2_reckon_15 : decode cX2_reckon 15 = .ok (.getfield 9, 3) := by decide +kernel
theorem dX2_reckon_18 : decode cX2_reckon 18 = .ok (.arraylength, 1) := by decide +kernel
theorem dX2_reckon_19 : decode cX2_reckon 19 = .ok (.if_icmp .ge 27, 3) := by decide +kernel
theorem dX2_reckon_22 : decode cX2_reckon 22 = .ok (.iload 6, 2) := by decide +kernel
theorem dX2_reckon_24 : decode cX2_reckon 24 = .ok (.iload_n 3, 1) := by decide +kernel
theorem dX2_reckon_25 : decode cX2_reckon 25 = .ok (.if_icmp .lt 15, 3) := by decide +kernel
theorem dX2_reckon_28 : decode cX2_reckon 28 = .ok (.lload 4, 2) := by decide +kernel
theorem dX2_reckon_30 : decode cX2_reckon 30 = .ok (.aload_n 0, 1) := by decide +kernel
theorem dX2_reckon_31 : decode cX2_reckon 31 = .ok (.getfield 9, 3) := by decide +kernel
theorem dX2_reckon_34 : decode cX2_reckon 34 = .ok (.iload 6, 2) := by decide +kernel
theorem dX2_reckon_36 : decode cX2_reckon 36 = .ok (.laload, 1) := by decide +kernel
theorem dX2_reckon_37 : decode cX2_reckon 37 = .ok (.ladd, 1) := by decide +kernel
theorem dX2_reckon_38 : decode cX2_reckon 38 = .ok (.lstore 4, 2) := by decide +kernel
theorem dX2_reckon_40 : decode cX2_reckon 40 = .ok (.iinc 6 1, 3) := by decide +kernel
theorem dX2_reckon_43 : decode cX2_reckon 43 = .ok (.goto (-31), 3) := by decide +kernel
theorem dX2_reckon_46 : decode cX2_reckon 46 = .ok (.lconst 1, 1) := by decide +kernel
theorem dX2_reckon_47 : decode cX2_reckon 47 = .ok (.lstore 6, 2) := by decide +kernel
theorem dX2_reckon_49 : decode cX2_reckon 49 = .ok (.iconst 0, 1) := by decide +kernel
theorem dX2_reckon_50 : decode cX2_reckon 50 = .ok (.istore 8, 2) := by decide +kernel
theorem dX2_reckon_52 : decode cX2_reckon 52 = .ok (.iload 8, 2) := by decide +kernel
theorem dX2_reckon_54 : decode cX2_reckon 54 = .ok (.iload_n 1, 1) := by decide +kernel
theorem dX2_reckon_55 : decode cX2_reckon 55 = .ok (.if_icmp .ge 17, 3) := by decide +kernel
theorem dX2_reckon_58 : decode cX2_reckon 58 = .ok (.lload 6, 2) := by decide +kernel
theorem dX2_reckon_60 : decode cX2_reckon 60 = .ok (.ldc2_w 26, 3) := by decide +kernel
theorem dX2_reckon_63 : decode cX2_reckon 63 = .ok (.lmul, 1) := by decide +kernel
theorem dX2_reckon_64 : decode cX2_reckon 64 = .ok (.lstore 6, 2) := by decide +kernel
theorem dX2_reckon_66 : decode cX2_reckon 66 = .ok (.iinc 8 1, 3) := by decide +kernel
theorem dX2_reckon_69 : decode cX2_reckon 69 = .ok (.goto (-17), 3) := by decide +kernel
theorem dX2_reckon_72 : decode cX2_reckon 72 = .ok (.lload 6, 2) := by decide +kernel
theorem dX2_reckon_74 : decode cX2_reckon 74 = .ok (.lload 4, 2) := by decide +kernel
theorem dX2_reckon_76 : decode cX2_reckon 76 = .ok (.invokestatic 28, 3) := by decide +kernel
theorem dX2_reckon_79 : decode cX2_reckon 79 = .ok (.lstore 8, 2) := by decide +kernel
theorem dX2_reckon_81 : decode cX2_reckon 81 = .ok (.aload_n 0, 1) := by decide +kernel
theorem dX2_reckon_82 : decode cX2_reckon 82 = .ok (.lload 8, 2) := by decide +kernel
theorem dX2_reckon_84 : decode cX2_reckon 84 = .ok (.lconst 0, 1) := by decide +kernel
theorem dX2_reckon_85 : decode cX2_reckon 85 = .ok (.lcmp, 1) := by decide +kernel
theorem dX2_reckon_86 : decode cX2_reckon 86 = .ok (.ifCond .le 11, 3) := by decide +kernel
theorem dX2_reckon_89 : decode cX2_reckon 89 = .ok (.lload 4, 2) := by decide +kernel
theorem dX2_reckon_91 : decode cX2_reckon 91 = .ok (.lload 8, 2) := by decide +kernel
theorem dX2_reckon_93 : decode cX2_reckon 93 = .ok (.ldiv, 1) := by decide +kernel
theorem dX2_reckon_94 : decode cX2_reckon 94 = .ok (.goto 5, 3) := by decide +kernel
theorem dX2_reckon_97 : decode cX2_reckon 97 = .ok (.lload 4, 2) := by decide +kernel
theorem dX2_reckon_99 : decode cX2_reckon 99 = .ok (.putfield 15, 3) := by decide +kernel
theorem dX2_reckon_102 : decode cX2_reckon 102 = .ok (.aload_n 0, 1) := by decide +kernel
theorem dX2_reckon_103 : decode cX2_reckon 103 = .ok (.lload 8, 2) := by decide +kernel
theorem dX2_reckon_105 : decode cX2_reckon 105 = .ok (.lconst 0, 1) := by decide +kernel
theorem dX2_reckon_106 : decode cX2_reckon 106 = .ok (.lcmp, 1) := by decide +kernel
theorem dX2_reckon_107 : decode cX2_reckon 107 = .ok (.ifCond .le 11, 3) := by decide +kernel
theorem dX2_reckon_110 : decode cX2_reckon 110 = .ok (.lload 6, 2) := by decide +kernel
theorem dX2_reckon_112 : decode cX2_reckon 112 = .ok (.lload 8, 2) := by decide +kernel
theorem dX2_reckon_114 : decode cX2_reckon 114 = .ok (.ldiv, 1) := by decide +kernel
theorem dX2_reckon_115 : decode cX2_reckon 115 = .ok (.goto 5, 3) := by decide +kernel
theorem dX2_reckon_118 : decode cX2_reckon 118 = .ok (.lload 6, 2) := by decide +kernel
theorem dX2_reckon_120 : decode cX2_reckon 120 = .ok (.putfield 19, 3) := by decide +kernel
theorem dX2_reckon_123 : decode cX2_reckon 123 = .ok (.return_, 1) := by decide +kernel
theorem dX2_weigh_0 : decode cX2_weigh 0 = .ok (.iconst 0, 1) := by decide +kernel
theorem dX2_weigh_1 : decode cX2_weigh 1 = .ok (.istore_n 3, 1) := by decide +kernel
theorem dX2_weigh_2 : decode cX2_weigh 2 = .ok (.iload_n 3, 1) := by decide +kernel
theorem dX2_weigh_3 : decode cX2_weigh 3 = .ok (.aload_n 0, 1) := by decide +kernel
theorem dX2_weigh_4 : decode cX2_weigh 4 = .ok (.getfield 9, 3) := by decide +kernel
theorem dX2_weigh_7 : decode cX2_weigh 7 = .ok (.arraylength, 1) := by decide +kernel
theorem dX2_weigh_8 : decode cX2_weigh 8 = .ok (.if_icmp .ge 24, 3) := by decide +kernel
theorem dX2_weigh_11 : decode cX2_weigh 11 = .ok (.aload_n 0, 1) := by decide +kernel
theorem dX2_weigh_12 : decode cX2_weigh 12 = .ok (.getfield 9, 3) := by decide +kernel
theorem dX2_weigh_15 : decode cX2_weigh 15 = .ok (.iload_n 3, 1) := by decide +kernel
theorem dX2_weigh_16 : decode cX2_weigh 16 = .ok (.iload_n 3, 1) := by decide +kernel
theorem dX2_weigh_17 : decode cX2_weigh 17 = .ok (.ifCond .ne 7, 3) := by decide +kernel
theorem dX2_weigh_20 : decode cX2_weigh 20 = .ok (.lconst 1, 1) := by decide +kernel
theorem dX2_weigh_21 : decode cX2_weigh 21 = .ok (.goto 4, 3) := by decide +kernel
theorem dX2_weigh_24 : decode cX2_weigh 24 = .ok (.lconst 0, 1) := by decide +kernel
theorem dX2_weigh_25 : decode cX2_weigh 25 = .ok (.lastore, 1) := by decide +kernel
theorem dX2_weigh_26 : decode cX2_weigh 26 = .ok (.iinc 3 1, 3) := by decide +kernel
theorem dX2_weigh_29 : decode cX2_weigh 29 = .ok (.goto (-27), 3) := by decide +kernel
theorem dX2_weigh_32 : decode cX2_weigh 32 = .ok (.iconst 0, 1) := by decide +kernel
theorem dX2_weigh_33 : decode cX2_weigh 33 = .ok (.istore_n 3, 1) := by decide +kernel
theorem dX2_weigh_34 : decode cX2_weigh 34 = .ok (.iload_n 3, 1) := by decide +kernel
theorem dX2_weigh_35 : decode cX2_weigh 35 = .ok (.iload_n 1, 1) := by decide +kernel
theorem dX2_weigh_36 : decode cX2_weigh 36 = .ok (.if_icmp .ge 75, 3) := by decide +kernel
theorem dX2_weigh_39 : decode cX2_weigh 39 = .ok (.aload_n 0, 1) := by decide +kernel
theorem dX2_weigh_40 : decode cX2_weigh 40 = .ok (.getfield 9, 3) := by decide +kernel
theorem dX2_weigh_43 : decode cX2_weigh 43 = .ok (.arraylength, 1) := by decide +kernel
theorem dX2_weigh_44 : decode cX2_weigh 44 = .ok (.iconst 1, 1) := by decide +kernel
theorem dX2_weigh_45 : decode cX2_weigh 45 = .ok (.isub, 1) := by decide +kernel
theorem dX2_weigh_46 : decode cX2_weigh 46 = .ok (.istore 4, 2) := by decide +kernel
theorem dX2_weigh_48 : decode cX2_weigh 48 = .ok (.iload 4, 2) := by decide +kernel
theorem dX2_weigh_50 : decode cX2_weigh 50 = .ok (.ifCond .lt 55, 3) := by decide +kernel
theorem dX2_weigh_53 : decode cX2_weigh 53 = .ok (.iload 4, 2) := by decide +kernel
theorem dX2_weigh_55 : decode cX2_weigh 55 = .ok (.ifCond .le 15, 3) := by decide +kernel
theorem dX2_weigh_58 : decode cX2_weigh 58 = .ok (.aload_n 0, 1) := by decide +kernel
theorem dX2_weigh_59 : decode cX2_weigh 59 = .ok (.getfield 9, 3) := by decide +kernel
theorem dX2_weigh_62 : decode cX2_weigh 62 = .ok (.iload 4, 2) := by decide +kernel
theorem dX2_weigh_64 : decode cX2_weigh 64 = .ok (.iconst 1, 1) := by decide +kernel
theorem dX2_weigh_65 : decode cX2_weigh 65 = .ok (.isub, 1) := by decide +kernel
theorem dX2_weigh_66 : decode cX2_weigh 66 = .ok (.laload, 1) := by decide +kernel
theorem dX2_weigh_67 : decode cX2_weigh 67 = .ok (.goto 4, 3) := by decide +kernel
theorem dX2_weigh_70 : decode cX2_weigh 70 = .ok (.lconst 0, 1) := by decide +kernel
theorem dX2_weigh_71 : decode cX2_weigh 71 = .ok (.lstore 5, 2) := by decide +kernel
theorem dX2_weigh_73 : decode cX2_weigh 73 = .ok (.aload_n 0, 1) := by decide +kernel
theorem dX2_weigh_74 : decode cX2_weigh 74 = .ok (.getfield 9, 3) := by decide +kernel
theorem dX2_weigh_77 : decode cX2_weigh 77 = .ok (.iload 4, 2) := by decide +kernel
theorem dX2_weigh_79 : decode cX2_weigh 79 = .ok (.aload_n 0, 1) := by decide +kernel
theorem dX2_weigh_80 : decode cX2_weigh 80 = .ok (.getfield 9, 3) := by decide +kernel
theorem dX2_weigh_83 : decode cX2_weigh 83 = .ok (.iload 4, 2) := by decide +kernel
theorem dX2_weigh_85 : decode cX2_weigh 85 = .ok (.laload, 1) := by decide +kernel
theorem dX2_weigh_86 : decode cX2_weigh 86 = .ok (.iload_n 2, 1) := by decide +kernel
theorem dX2_weigh_87 : decode cX2_weigh 87 = .ok (.i2l, 1) := by decide +kernel
theorem dX2_weigh_88 : decode cX2_weigh 88 = .ok (.lmul, 1) := by decide +kernel
theorem dX2_weigh_89 : decode cX2_weigh 89 = .ok (.lload 5, 2) := by decide +kernel
theorem dX2_weigh_91 : decode cX2_weigh 91 = .ok (.bipush 10, 2) := by decide +kernel
theorem dX2_weigh_93 : decode cX2_weigh 93 = .ok (.iload_n 2, 1) := by decide +kernel
theorem dX2_weigh_94 : decode cX2_weigh 94 = .ok (.isub, 1) := by decide +kernel
theorem dX2_weigh_95 : decode cX2_weigh 95 = .ok (.i2l, 1) := by decide +kernel
theorem dX2_weigh_96 : decode cX2_weigh 96 = .ok (.lmul, 1) := by decide +kernel
theorem dX2_weigh_97 : decode cX2_weigh 97 = .ok (.ladd, 1) := by decide +kernel
theorem dX2_weigh_98 : decode cX2_weigh 98 = .ok (.lastore, 1) := by decide +kernel
theorem dX2_weigh_99 : decode cX2_weigh 99 = .ok (.iinc 4 (-1), 3) := by decide +kernel
theorem dX2_weigh_102 : decode cX2_weigh 102 = .ok (.goto (-54), 3) := by decide +kernel
theorem dX2_weigh_105 : decode cX2_weigh 105 = .ok (.iinc 3 1, 3) := by decide +kernel
theorem dX2_weigh_108 : decode cX2_weigh 108 = .ok (.goto (-74), 3) := by decide +kernel
theorem dX2_weigh_111 : decode cX2_weigh 111 = .ok (.return_, 1) := by decide +kernel
theorem dX2_commonDivisor_0 : decode cX2_commonDivisor 0 = .ok (.lload_n 0, 1) := by decide +kernel
theorem dX2_commonDivisor_1 : decode cX2_commonDivisor 1 = .ok (.lstore 4, 2) := by decide +kernel
theorem dX2_commonDivisor_3 : decode cX2_commonDivisor 3 = .ok (.lload_n 2, 1) := by decide +kernel
theorem dX2_commonDivisor_4 : decode cX2_commonDivisor 4 = .ok (.lstore 6, 2) := by decide +kernel
theorem dX2_commonDivisor_6 : decode cX2_commonDivisor 6 = .ok (.iconst 0, 1) := by decide +kernel
theorem dX2_commonDivisor_7 : decode cX2_commonDivisor 7 = .ok (.istore 8, 2) := by decide +kernel
theorem dX2_commonDivisor_9 : decode cX2_commonDivisor 9 = .ok (.iload 8, 2) := by decide +kernel
theorem dX2_commonDivisor_11 : decode cX2_commonDivisor 11 = .ok (.sipush 200, 3) := by decide +kernel
theorem dX2_commonDivisor_14 : decode cX2_commonDivisor 14 = .ok (.if_icmp .ge 31, 3) := by decide +kernel
theorem dX2_commonDivisor_17 : decode cX2_commonDivisor 17 = .ok (.lload 6, 2) := by decide +kernel
theorem dX2_commonDivisor_19 : decode cX2_commonDivisor 19 = .ok (.lconst 0, 1) := by decide +kernel
theorem dX2_commonDivisor_20 : decode cX2_commonDivisor 20 = .ok (.lcmp, 1) := by decide +kernel
theorem dX2_commonDivisor_21 : decode cX2_commonDivisor 21 = .ok (.ifCond .eq 24, 3) := by decide +kernel
theorem dX2_commonDivisor_24 : decode cX2_commonDivisor 24 = .ok (.lload 4, 2) := by decide +kernel
theorem dX2_commonDivisor_26 : decode cX2_commonDivisor 26 = .ok (.lload 6, 2) := by decide +kernel
theorem dX2_commonDivisor_28 : decode cX2_commonDivisor 28 = .ok (.lrem, 1) := by decide +kernel
theorem dX2_commonDivisor_29 : decode cX2_commonDivisor 29 = .ok (.lstore 9, 2) := by decide +kernel
theorem dX2_commonDivisor_31 : decode cX2_commonDivisor 31 = .ok (.lload 6, 2) := by decide +kernel
theorem dX2_commonDivisor_33 : decode cX2_commonDivisor 33 = .ok (.lstore 4, 2) := by decide +kernel
theorem dX2_commonDivisor_35 : decode cX2_commonDivisor 35 = .ok (.lload 9, 2) := by decide +kernel
theorem dX2_commonDivisor_37 : decode cX2_commonDivisor 37 = .ok (.lstore 6, 2) := by decide +kernel
theorem dX2_commonDivisor_39 : decode cX2_commonDivisor 39 = .ok (.iinc 8 1, 3) := by decide +kernel
theorem dX2_commonDivisor_42 : decode cX2_commonDivisor 42 = .ok (.goto (-33), 3) := by decide +kernel
theorem dX2_commonDivisor_45 : decode cX2_commonDivisor 45 = .ok (.lload 4, 2) := by decide +kernel
theorem dX2_commonDivisor_47 : decode cX2_commonDivisor 47 = .ok (.lreturn, 1) := by decide +kernel
theorem dX3_init_0 : decode cX3_init 0 = .ok (.aload_n 0, 1) := by decide +kernel
theorem dX3_init_1 : decode cX3_init 1 = .ok (.invokespecial 3, 3) := by decide +kernel
theorem dX3_init_4 : decode cX3_init 4 = .ok (.aload_n 0, 1) := by decide +kernel
theorem dX3_init_5 : decode cX3_init 5 = .ok (.bipush 6, 2) := by decide +kernel
theorem dX3_init_7 : decode cX3_init 7 = .ok (.newarray .int, 2) := by decide +kernel
theorem dX3_init_9 : decode cX3_init 9 = .ok (.putfield 9, 3) := by decide +kernel
theorem dX3_init_12 : decode cX3_init 12 = .ok (.aload_n 0, 1) := by decide +kernel
theorem dX3_init_13 : decode cX3_init 13 = .ok (.bipush 36, 2) := by decide +kernel
theorem dX3_init_15 : decode cX3_init 15 = .ok (.newarray .int, 2) := by decide +kernel
theorem dX3_init_17 : decode cX3_init 17 = .ok (.putfield 15, 3) := by decide +kernel
theorem dX3_init_20 : decode cX3_init 20 = .ok (.aload_n 0, 1) := by decide +kernel
theorem dX3_init_21 : decode cX3_init 21 = .ok (.bipush 64, 2) := by decide +kernel
theorem dX3_init_23 : decode cX3_init 23 = .ok (.newarray .int, 2) := by decide +kernel
theorem dX3_init_25 : decode cX3_init 25 = .ok (.putfield 18, 3) := by decide +kernel
theorem dX3_init_28 : decode cX3_init 28 = .ok (.aload_n 0, 1) := by decide +kernel
theorem dX3_init_29 : decode cX3_init 29 = .ok (.iconst 0, 1) := by decide +kernel
theorem dX3_init_30 : decode cX3_init 30 = .ok (.putfield 21, 3) := by decide +kernel
theorem dX3_init_33 : decode cX3_init 33 = .ok (.return_, 1) := by decide +kernel
set_option maxRecDepth 20000 in
theorem ggX3_gather_X10_at : GoodIn wsX3_gather wsX10_at := goodIn_r _ [5] (by decide +kernel) (by decide +kernel)
set_option maxRecDepth 20000 in
theorem gX3_gather_X10_at_n30 : GoodIn wsX3_gather (wsX10_at) := ggX3_gather_X10_at
set_option maxRecDepth 20000 in
theorem ggX3_gather_X10_put : GoodIn wsX3_gather wsX10_put := goodIn_r _ [7] (by decide +kernel) (by decide +kernel)
set_option maxRecDepth 20000 in
theorem gX3_gather_X10_put_n34 : GoodIn wsX3_gather (wsX10_put) := ggX3_gather_X10_put
theorem dX3_gather_0 : decode cX3_gather 0 = .ok (.aload_n 0, 1) := by decide +kernel
theorem dX3_gather_1 : decode cX3_gather 1 = .ok (.iconst 0, 1) := by decide +kernel
theorem dX3_gather_2 : decode cX3_gather 2 = .ok (.putfield 21, 3) := by decide +kernel
theorem dX3_gather_5 : decode cX3_gather 5 = .ok (.aload_n 1, 1) := by decide +kernel
theorem dX3_gather_6 : decode cX3_gather 6 = .ok (.ifnonnull 4, 3) := by decide +kernel
theorem dX3_gather_9 : decode cX3_gather 9 = .ok (.return_, 1) := by decide +kernel
theorem dX3_gather_10 : decode cX3_gather 10 = .ok (.iconst 0, 1) := by decide +kernel
theorem dX3_gather_11 : decode cX3_gather 11 = .ok (.istore_n 3, 1) := by decide +kernel
theorem dX3_gather_12 : decode cX3_gather 12 = .ok (.iload_n 3, 1) := by decide +kernel
theorem dX3_gather_13 : decode cX3_gather 13 = .ok (.bipush 10, 2) := by decide +kernel
theorem dX3_gather_15 : decode cX3_gather 15 = .ok (.if_icmp .ge 52, 3) := by decide +kernel
theorem dX3_gather_18 : decode cX3_gather 18 = .ok (.aload_n 1, 1) := by decide +kernel
theorem dX3_gather_19 : decode cX3_gather 19 = .ok (.getfield 25, 3) := by decide +kernel
theorem dX3_gather_22 : decode cX3_gather 22 = .ok (.iload_n 3, 1) := by decide +kernel
theorem dX3_gather_23 : decode cX3_gather 23 = .ok (.invokestatic 30, 3) := by decide +kernel
theorem dX3_gather_26 : decode cX3_gather 26 = .ok (.iload_n 2, 1) := by decide +kernel
theorem dX3_gather_27 : decode cX3_gather 27 = .ok (.if_icmp .ne 34, 3) := by decide +kernel
theorem dX3_gather_30 : decode cX3_gather 30 = .ok (.aload_n 0, 1) := by decide +kernel
theorem dX3_gather_31 : decode cX3_gather 31 = .ok (.getfield 21, 3) := by decide +kernel
theorem dX3_gather_34 : decode cX3_gather 34 = .ok (.bipush 6, 2) := by decide +kernel
theorem dX3_gather_36 : decode cX3_gather 36 = .ok (.if_icmp .ge 25, 3) := by decide +kernel
theorem dX3_gather_39 : decode cX3_gather 39 = .ok (.aload_n 0, 1) := by decide +kernel
theorem dX3_gather_40 : decode cX3_gather 40 = .ok (.getfield 9, 3) := by decide +kernel
theorem dX3_gather_43 : decode cX3_gather 43 = .ok (.aload_n 0, 1) := by decide +kernel
theorem dX3_gather_44 : decode cX3_gather 44 = .ok (.getfield 21, 3) := by decide +kernel
theorem dX3_gather_47 : decode cX3_gather 47 = .ok (.iload_n 3, 1) := by decide +kernel
theorem dX3_gather_48 : decode cX3_gather 48 = .ok (.invokestatic 34, 3) := by decide +kernel
theorem dX3_gather_51 : decode cX3_gather 51 = .ok (.aload_n 0, 1) := by decide +kernel
theorem dX3_gather_52 : decode cX3_gather 52 = .ok (.dup, 1) := by decide +kernel
theorem dX3_gather_53 : decode cX3_gather 53 = .ok (.getfield 21, 3) := by decide +kernel
theorem dX3_gather_56 : decode cX3_gather 56 = .ok (.iconst 1, 1) := by decide +kernel
theorem dX3_gather_57 : decode cX3_gather 57 = .ok (.iadd, 1) := by decide +kernel
theorem dX3_gather_58 : decode cX3_gather 58 = .ok (.putfield 21, 3) := by decide +kernel
theorem dX3_gather_61 : decode cX3_gather 61 = .ok (.iinc 3 1, 3) := by decide +kernel
theorem dX3_gather_64 : decode cX3_gather 64 = .ok (.goto (-52), 3) := by decide +kernel
theorem dX3_gather_67 : decode cX3_gather 67 = .ok (.return_, 1) := by decide +kernel
theorem dX3_all_0 : decode cX3_all 0 = .ok (.iconst 1, 1) := by decide +kernel
theorem dX3_all_1 : decode cX3_all 1 = .ok (.aload_n 0, 1) := by decide +kernel
theorem dX3_all_2 : decode cX3_all 2 = .ok (.getfield 21, 3) := by decide +kernel
theorem dX3_all_5 : decode cX3_all 5 = .ok (.ishl, 1) := by decide +kernel
theorem dX3_all_6 : decode cX3_all 6 = .ok (.iconst 1, 1) := by decide +kernel
theorem dX3_all_7 : decode cX3_all 7 = .ok (.isub, 1) := by decide +kernel
theorem dX3_all_8 : decode cX3_all 8 = .ok (.ireturn, 1) := by decide +kernel
set_option maxRecDepth 20000 in
theorem ggX3_answerForAll_X3_all : GoodIn wsX3_answerForAll wsX3_all := goodIn_r _ [6, 7, 11, 12, 13, 14] (by decide +kernel) (by decide +kernel)
set_option maxRecDepth 20000 in
theorem gX3_answerForAll_X3_all : GoodIn wsX3_answerForAll (wsV RX3 38 RX3 yX3_all wsX3_all) := goodIn_app (goodIn_of _ (by decide +kernel)) ggX3_answerForAll_X3_all
set_option maxRecDepth 20000 in
theorem ggX3_answerForAll_X10_at : GoodIn wsX3_answerForAll wsX10_at := goodIn_r _ [10] (by decide +kernel) (by decide +kernel)
set_option maxRecDepth 20000 in
theorem gX3_answerForAll_X10_at_n30 : GoodIn wsX3_answerForAll (wsX10_at) := ggX3_answerForAll_X10_at
theorem dX3_answerForAll_0 : decode cX3_answerForAll 0 = .ok (.aload_n 0, 1) := by decide +kernel
theorem dX3_answerForAll_1 : decode cX3_answerForAll 1 = .ok (.getfield 18, 3) := by decide +kernel
theorem dX3_answerForAll_4 : decode cX3_answerForAll 4 = .ok (.aload_n 0, 1) := by decide +kernel
theorem dX3_answerForAll_5 : decode cX3_answerForAll 5 = .ok (.invokevirtual 38, 3) := by decide +kernel
theorem dX3_answerForAll_8 : decode cX3_answerForAll 8 = .ok (.invokestatic 30, 3) := by decide +kernel
theorem dX3_answerForAll_11 : decode cX3_answerForAll 11 = .ok (.ireturn, 1) := by decide +kernel
set_option maxRecDepth 20000 in
theorem ggX3_countClashes_X10_at : GoodIn wsX3_countClashes wsX10_at := goodIn_r _ [7] (by decide +kernel) (by decide +kernel)
set_option maxRecDepth 20000 in
theorem gX3_countClashes_X10_at_n30 : GoodIn wsX3_countClashes (wsX10_at) := ggX3_countClashes_X10_at
set_option maxRecDepth 20000 in
theorem ggX3_countClashes_X8_clashesIn : GoodIn wsX3_countClashes wsX8_clashesIn := goodIn_r _ [12, 13, 14, 5, 6, 7, 15, 16, 17, 11, 18, 19, 20, 21, 22, 23, 24, 25, 26, 27, 28, 29, 30, 31, 32, 33, 67, 68, 69, 70, 71, 72, 73, 74, 75, 76] (by decide +kernel) (by decide +kernel)
set_option maxRecDepth 20000 in
theorem gX3_countClashes_X8_clashesIn : GoodIn wsX3_countClashes (wsV RX3 42 RX8 yX8_clashesIn wsX8_clashesIn) := goodIn_app (goodIn_of _ (by decide +kernel)) ggX3_countClashes_X8_clashesIn
set_option maxRecDepth 20000 in
theorem ggX3_countClashes_X10_put : GoodIn wsX3_countClashes wsX10_put := goodIn_r _ [35] (by decide +kernel) (by decide +kernel)
set_option maxRecDepth 20000 in
theorem gX3_countClashes_X10_put_n34 : GoodIn wsX3_countClashes (wsX10_put) := ggX3_countClashes_X10_put
set_option maxRecDepth 20000 in
theorem ggX3_countClashes_X3_all : GoodIn wsX3_countClashes wsX3_all := goodIn_r _ [40, 1, 63, 64, 65, 66] (by decide +kernel) (by decide +kernel)
set_option maxRecDepth 20000 in
theorem gX3_countClashes_X3_all : GoodIn wsX3_countClashes (wsV RX3 38 RX3 yX3_all wsX3_all) := goodIn_app (goodIn_of _ (by decide +kernel)) ggX3_countClashes_X3_all
set_option maxRecDepth 20000 in
theorem ggX3_countClashes_X3_fewestOf : GoodIn wsX3_countClashes wsX3_fewestOf := goodIn_r _ [44, 1, 45, 30, 31, 32, 46, 47, 39, 48, 49, 50, 51, 52, 2, 4, 53, 54, 55, 56, 57, 58, 59, 5, 6, 7, 60, 61, 62, 63, 64, 65, 66] (by decide +kernel) (by decide +kernel)
set_option maxRecDepth 20000 in
theorem gX3_countClashes_X3_fewestOf : GoodIn wsX3_countClashes (wsV RX3 48 RX3 yX3_fewestOf wsX3_fewestOf) := goodIn_app (goodIn_of _ (by decide +kernel)) ggX3_countClashes_X3_fewestOf
theorem dX3_countClashes_0 : decode cX3_countClashes 0 = .ok (.aload_n 1, 1) := by decide +kernel
theorem dX3_countClashes_1 : decode cX3_countClashes 1 = .ok (.ifnonnull 4, 3) := by decide +kernel
theorem dX3_countClashes_4 : decode cX3_countClashes 4 = .ok (.return_, 1) := by decide +kernel
theorem dX3_countClashes_5 : decode cX3_countClashes 5 = .ok (.iconst 0, 1) := by decide +kernel
theorem dX3_countClashes_6 : decode cX3_countClashes 6 = .ok (.istore_n 3, 1) := by decide +kernel
theorem dX3_countClashes_7 : decode cX3_countClashes 7 = .ok (.iload_n 3, 1) := by decide +kernel
theorem dX3_countClashes_8 : decode cX3_countClashes 8 = .ok (.aload_n 0, 1) := by decide +kernel
theorem dX3_countClashes_9 : decode cX3_countClashes 9 = .ok (.getfield 21, 3) := by decide +kernel
theorem dX3_countClashes_12 : decode cX3_countClashes 12 = .ok (.if_icmp .ge 56, 3) := by decide +kernel
theorem dX3_countClashes_15 : decode cX3_countClashes 15 = .ok (.iconst 0, 1) := by decide +kernel
theorem dX3_countClashes_16 : decode cX3_countClashes 16 = .ok (.istore 4, 2) := by decide +kernel
theorem dX3_countClashes_18 : decode cX3_countClashes 18 = .ok (.iload 4, 2) := by decide +kernel
theorem dX3_countClashes_20 : decode cX3_countClashes 20 = .ok (.aload_n 0, 1) := by decide +kernel
theorem dX3_countClashes_21 : decode cX3_countClashes 21 = .ok (.getfield 21, 3) := by decide +kernel
theorem dX3_countClashes_24 : decode cX3_countClashes 24 = .ok (.if_icmp .ge 38, 3) := by decide +kernel
theorem dX3_countClashes_27 : decode cX3_countClashes 27 = .ok (.aload_n 0, 1) := by decide +kernel
theorem dX3_countClashes_28 : decode cX3_countClashes 28 = .ok (.getfield 15, 3) := by decide +kernel
theorem dX3_countClashes_31 : decode cX3_countClashes 31 = .ok (.iload_n 3, 1) := by decide +kernel
theorem dX3_countClashes_32 : decode cX3_countClashes 32 = .ok (.bipush 6, 2) := by decide +kernel
theorem dX3_countClashes_34 : decode cX3_countClashes 34 = .ok (.imul, 1) := by decide +kernel
theorem dX3_countClashes_35 : decode cX3_countClashes 35 = .ok (.iload 4, 2) := by decide +kernel
theorem dX3_countClashes_37 : decode cX3_countClashes 37 = .ok (.iadd, 1) := by decide +kernel
theorem dX3_countClashes_38 : decode cX3_countClashes 38 = .ok (.aload_n 1, 1) := by decide +kernel
theorem dX3_countClashes_39 : decode cX3_countClashes 39 = .ok (.iload_n 2, 1) := by decide +kernel
theorem dX3_countClashes_40 : decode cX3_countClashes 40 = .ok (.iload 4, 2) := by decide +kernel
theorem dX3_countClashes_42 : decode cX3_countClashes 42 = .ok (.aload_n 0, 1) := by decide +kernel
theorem dX3_countClashes_43 : decode cX3_countClashes 43 = .ok (.getfield 9, 3) := by decide +kernel
theorem dX3_countClashes_46 : decode cX3_countClashes 46 = .ok (.iload_n 3, 1) := by decide +kernel
theorem dX3_countClashes_47 : decode cX3_countClashes 47 = .ok (.invokestatic 30, 3) := by decide +kernel
theorem dX3_countClashes_50 : decode cX3_countClashes 50 = .ok (.invokevirtual 42, 3) := by decide +kernel
theorem dX3_countClashes_53 : decode cX3_countClashes 53 = .ok (.invokestatic 34, 3) := by decide +kernel
theorem dX3_countClashes_56 : decode cX3_countClashes 56 = .ok (.iinc 4 1, 3) := by decide +kernel
theorem dX3_countClashes_59 : decode cX3_countClashes 59 = .ok (.goto (-41), 3) := by decide +kernel
theorem dX3_countClashes_62 : decode cX3_countClashes 62 = .ok (.iinc 3 1, 3) := by decide +kernel
theorem dX3_countClashes_65 : decode cX3_countClashes 65 = .ok (.goto (-58), 3) := by decide +kernel
theorem dX3_countClashes_68 : decode cX3_countClashes 68 = .ok (.aload_n 0, 1) := by decide +kernel
theorem dX3_countClashes_69 : decode cX3_countClashes 69 = .ok (.invokevirtual 38, 3) := by decide +kernel
theorem dX3_countClashes_72 : decode cX3_countClashes 72 = .ok (.istore_n 3, 1) := by decide +kernel
theorem dX3_countClashes_73 : decode cX3_countClashes 73 = .ok (.aload_n 0, 1) := by decide +kernel
theorem dX3_countClashes_74 : decode cX3_countClashes 74 = .ok (.getfield 18, 3) := by decide +kernel
theorem dX3_countClashes_77 : decode cX3_countClashes 77 = .ok (.iconst 0, 1) := by decide +kernel
theorem dX3_countClashes_78 : decode cX3_countClashes 78 = .ok (.iconst 0, 1) := by decide +kernel
theorem dX3_countClashes_79 : decode cX3_countClashes 79 = .ok (.invokestatic 34, 3) := by decide +kernel
theorem dX3_countClashes_82 : decode cX3_countClashes 82 = .ok (.iconst 1, 1) := by decide +kernel
theorem dX3_countClashes_83 : decode cX3_countClashes 83 = .ok (.istore 4, 2) := by decide +kernel
theorem dX3_countClashes_85 : decode cX3_countClashes 85 = .ok (.iload 4, 2) := by decide +kernel
theorem dX3_countClashes_87 : decode cX3_countClashes 87 = .ok (.iload_n 3, 1) := by decide +kernel
theorem dX3_countClashes_88 : decode cX3_countClashes 88 = .ok (.if_icmp .gt 24, 3) := by decide +kernel
theorem dX3_countClashes_91 : decode cX3_countClashes 91 = .ok (.aload_n 0, 1) := by decide +kernel
theorem dX3_countClashes_92 : decode cX3_countClashes 92 = .ok (.getfield 18, 3) := by decide +kernel
theorem dX3_countClashes_95 : decode cX3_countClashes 95 = .ok (.iload 4, 2) := by decide +kernel
theorem dX3_countClashes_97 : decode cX3_countClashes 97 = .ok (.aload_n 0, 1) := by decide +kernel
theorem dX3_countClashes_98 : decode cX3_countClashes 98 = .ok (.iload 4, 2) := by decide +kernel
theorem dX3_countClashes_100 : decode cX3_countClashes 100 = .ok (.invokevirtual 48, 3) := by decide +kernel
theorem dX3_countClashes_103 : decode cX3_countClashes 103 = .ok (.invokestatic 34, 3) := by decide +kernel
theorem dX3_countClashes_106 : decode cX3_countClashes 106 = .ok (.iinc 4 1, 3) := by decide +kernel
theorem dX3_countClashes_109 : decode cX3_countClashes 109 = .ok (.goto (-24), 3) := by decide +kernel
theorem dX3_countClashes_112 : decode cX3_countClashes 112 = .ok (.return_, 1) := by decide +kernel
set_option maxRecDepth 20000 in
theorem ggX3_fewestOf_X3_holds : GoodIn wsX3_fewestOf wsX3_holds := goodIn_r _ [9] (by decide +kernel) (by decide +kernel)
set_option maxRecDepth 20000 in
theorem gX3_fewestOf_X3_holds : GoodIn wsX3_fewestOf (va_wsS RX3 52 yX3_holds wsX3_holds) := goodIn_app (goodIn_of _ (by decide +kernel)) ggX3_fewestOf_X3_holds
set_option maxRecDepth 20000 in
theorem ggX3_fewestOf_X3_ledBy : GoodIn wsX3_fewestOf wsX3_ledBy := goodIn_r _ [13, 1, 14, 15, 16, 17, 18, 19, 20, 21, 22, 23, 24, 25, 26, 27, 8, 28, 29, 30, 31, 32] (by decide +kernel) (by decide +kernel)
set_option maxRecDepth 20000 in
theorem gX3_fewestOf_X3_ledBy : GoodIn wsX3_fewestOf (wsV RX3 56 RX3 yX3_ledBy wsX3_ledBy) := goodIn_app (goodIn_of _ (by decide +kernel)) ggX3_fewestOf_X3_ledBy
theorem dX3_fewestOf_0 : decode cX3_fewestOf 0 = .ok (.bipush (-6), 2) := by decide +kernel
theorem dX3_fewestOf_2 : decode cX3_fewestOf 2 = .ok (.istore_n 2, 1) := by decide +kernel
theorem dX3_fewestOf_3 : decode cX3_fewestOf 3 = .ok (.iconst 0, 1) := by decide +kernel
theorem dX3_fewestOf_4 : decode cX3_fewestOf 4 = .ok (.istore_n 3, 1) := by decide +kernel
theorem dX3_fewestOf_5 : decode cX3_fewestOf 5 = .ok (.iload_n 3, 1) := by decide +kernel
theorem dX3_fewestOf_6 : decode cX3_fewestOf 6 = .ok (.aload_n 0, 1) := by decide +kernel
theorem dX3_fewestOf_7 : decode cX3_fewestOf 7 = .ok (.getfield 21, 3) := by decide +kernel
theorem dX3_fewestOf_10 : decode cX3_fewestOf 10 = .ok (.if_icmp .ge 43, 3) := by decide +kernel
theorem dX3_fewestOf_13 : decode cX3_fewestOf 13 = .ok (.iload_n 1, 1) := by decide +kernel
theorem dX3_fewestOf_14 : decode cX3_fewestOf 14 = .ok (.iload_n 3, 1) := by decide +kernel
theorem dX3_fewestOf_15 : decode cX3_fewestOf 15 = .ok (.invokestatic 52, 3) := by decide +kernel
theorem dX3_fewestOf_18 : decode cX3_fewestOf 18 = .ok (.ifCond .eq 29, 3) := by decide +kernel
theorem dX3_fewestOf_21 : decode cX3_fewestOf 21 = .ok (.aload_n 0, 1) := by decide +kernel
theorem dX3_fewestOf_22 : decode cX3_fewestOf 22 = .ok (.iload_n 1, 1) := by decide +kernel
theorem dX3_fewestOf_23 : decode cX3_fewestOf 23 = .ok (.iload_n 3, 1) := by decide +kernel
theorem dX3_fewestOf_24 : decode cX3_fewestOf 24 = .ok (.invokevirtual 56, 3) := by decide +kernel
theorem dX3_fewestOf_27 : decode cX3_fewestOf 27 = .ok (.istore 4, 2) := by decide +kernel
theorem dX3_fewestOf_29 : decode cX3_fewestOf 29 = .ok (.iload_n 2, 1) := by decide +kernel
theorem dX3_fewestOf_30 : decode cX3_fewestOf 30 = .ok (.bipush (-6), 2) := by decide +kernel
theorem dX3_fewestOf_32 : decode cX3_fewestOf 32 = .ok (.if_icmp .ne 8, 3) := by decide +kernel
theorem dX3_fewestOf_35 : decode cX3_fewestOf 35 = .ok (.iload 4, 2) := by decide +kernel
theorem dX3_fewestOf_37 : decode cX3_fewestOf 37 = .ok (.goto 9, 3) := by decide +kernel
theorem dX3_fewestOf_40 : decode cX3_fewestOf 40 = .ok (.iload_n 2, 1) := by decide +kernel
theorem dX3_fewestOf_41 : decode cX3_fewestOf 41 = .ok (.iload 4, 2) := by decide +kernel
theorem dX3_fewestOf_43 : decode cX3_fewestOf 43 = .ok (.invokestatic 60, 3) := by decide +kernel
theorem dX3_fewestOf_46 : decode cX3_fewestOf 46 = .ok (.istore_n 2, 1) := by decide +kernel
theorem dX3_fewestOf_47 : decode cX3_fewestOf 47 = .ok (.iinc 3 1, 3) := by decide +kernel
theorem dX3_fewestOf_50 : decode cX3_fewestOf 50 = .ok (.goto (-45), 3) := by decide +kernel
theorem dX3_fewestOf_53 : decode cX3_fewestOf 53 = .ok (.iload_n 2, 1) := by decide +kernel
theorem dX3_fewestOf_54 : decode cX3_fewestOf 54 = .ok (.ireturn, 1) := by decide +kernel
set_option maxRecDepth 20000 in
theorem ggX3_ledBy_J6_bitCount_0f7a4 : GoodIn wsX3_ledBy wsJ6_bitCount_0f7a4 := goodIn_r _ [7, 8, 9, 10] (by decide +kernel) (by decide +kernel)
set_option maxRecDepth 20000 in
theorem gX3_ledBy_J6_bitCount_0f7a4 : GoodIn wsX3_ledBy (va_wsS RX3 65 yJ6_bitCount_0f7a4 wsJ6_bitCount_0f7a4) := goodIn_app (goodIn_of _ (by decide +kernel)) ggX3_ledBy_J6_bitCount_0f7a4
set_option maxRecDepth 20000 in
theorem ggX3_ledBy_X10_at : GoodIn wsX3_ledBy wsX10_at := goodIn_r _ [13] (by decide +kernel) (by decide +kernel)
set_option maxRecDepth 20000 in
theorem gX3_ledBy_X10_at_n30 : GoodIn wsX3_ledBy (wsX10_at) := ggX3_ledBy_X10_at
set_option maxRecDepth 20000 in
theorem ggX3_ledBy_X3_without : GoodIn wsX3_ledBy wsX3_without := goodIn_r _ [17] (by decide +kernel) (by decide +kernel)
set_option maxRecDepth 20000 in
theorem gX3_ledBy_X3_without : GoodIn wsX3_ledBy (va_wsS RX3 70 yX3_without wsX3_without) := goodIn_app (goodIn_of _ (by decide +kernel)) ggX3_ledBy_X3_without
theorem dX3_ledBy_0 : decode cX3_ledBy 0 = .ok (.aload_n 0, 1) := by decide +kernel
theorem dX3_ledBy_1 : decode cX3_ledBy 1 = .ok (.getfield 21, 3) := by decide +kernel
theorem dX3_ledBy_4 : decode cX3_ledBy 4 = .ok (.iload_n 1, 1) := by decide +kernel
theorem dX3_ledBy_5 : decode cX3_ledBy 5 = .ok (.invokestatic 65, 3) := by decide +kernel
theorem dX3_ledBy_8 : decode cX3_ledBy 8 = .ok (.isub, 1) := by decide +kernel
theorem dX3_ledBy_9 : decode cX3_ledBy 9 = .ok (.istore_n 3, 1) := by decide +kernel
theorem dX3_ledBy_10 : decode cX3_ledBy 10 = .ok (.aload_n 0, 1) := by decide +kernel
theorem dX3_ledBy_11 : decode cX3_ledBy 11 = .ok (.getfield 15, 3) := by decide +kernel
theorem dX3_ledBy_14 : decode cX3_ledBy 14 = .ok (.iload_n 2, 1) := by decide +kernel
theorem dX3_ledBy_15 : decode cX3_ledBy 15 = .ok (.bipush 6, 2) := by decide +kernel
theorem dX3_ledBy_17 : decode cX3_ledBy 17 = .ok (.imul, 1) := by decide +kernel
theorem dX3_ledBy_18 : decode cX3_ledBy 18 = .ok (.iload_n 3, 1) := by decide +kernel
theorem dX3_ledBy_19 : decode cX3_ledBy 19 = .ok (.iadd, 1) := by decide +kernel
theorem dX3_ledBy_20 : decode cX3_ledBy 20 = .ok (.invokestatic 30, 3) := by decide +kernel
theorem dX3_ledBy_23 : decode cX3_ledBy 23 = .ok (.aload_n 0, 1) := by decide +kernel
theorem dX3_ledBy_24 : decode cX3_ledBy 24 = .ok (.getfield 18, 3) := by decide +kernel
theorem dX3_ledBy_27 : decode cX3_ledBy 27 = .ok (.iload_n 1, 1) := by decide +kernel
theorem dX3_ledBy_28 : decode cX3_ledBy 28 = .ok (.iload_n 2, 1) := by decide +kernel
theorem dX3_ledBy_29 : decode cX3_ledBy 29 = .ok (.invokestatic 70, 3) := by decide +kernel
theorem dX3_ledBy_32 : decode cX3_ledBy 32 = .ok (.invokestatic 30, 3) := by decide +kernel
theorem dX3_ledBy_35 : decode cX3_ledBy 35 = .ok (.iadd, 1) := by decide +kernel
theorem dX3_ledBy_36 : decode cX3_ledBy 36 = .ok (.ireturn, 1) := by decide +kernel
set_option maxRecDepth 20000 in
theorem ggX3_firstOfFewest_X3_all : GoodIn wsX3_firstOfFewest wsX3_all := goodIn_r _ [8, 1, 30, 31, 32, 33] (by decide +kernel) (by decide +kernel)
set_option maxRecDepth 20000 in
theorem gX3_firstOfFewest_X3_all : GoodIn wsX3_firstOfFewest (wsV RX3 38 RX3 yX3_all wsX3_all) := goodIn_app (goodIn_of _ (by decide +kernel)) ggX3_firstOfFewest_X3_all
set_option maxRecDepth 20000 in
theorem ggX3_firstOfFewest_X3_holds : GoodIn wsX3_firstOfFewest wsX3_holds := goodIn_r _ [11] (by decide +kernel) (by decide +kernel)
set_option maxRecDepth 20000 in
theorem gX3_firstOfFewest_X3_holds : GoodIn wsX3_firstOfFewest (va_wsS RX3 52 yX3_holds wsX3_holds) := goodIn_app (goodIn_of _ (by decide +kernel)) ggX3_firstOfFewest_X3_holds
set_option maxRecDepth 20000 in
theorem ggX3_firstOfFewest_X3_ledBy : GoodIn wsX3_firstOfFewest wsX3_ledBy := goodIn_r _ [15, 1, 16, 2, 17, 18, 19, 20, 21, 22, 23, 24, 25, 26, 27, 28, 7, 29, 30, 31, 32, 33] (by decide +kernel) (by decide +kernel)
set_option maxRecDepth 20000 in
theorem gX3_firstOfFewest_X3_ledBy : GoodIn wsX3_firstOfFewest (wsV RX3 56 RX3 yX3_ledBy wsX3_ledBy) := goodIn_app (goodIn_of _ (by decide +kernel)) ggX3_firstOfFewest_X3_ledBy
set_option maxRecDepth 20000 in
theorem ggX3_firstOfFewest_X10_at : GoodIn wsX3_firstOfFewest wsX10_at := goodIn_r _ [26] (by decide +kernel) (by decide +kernel)
set_option maxRecDepth 20000 in
theorem gX3_firstOfFewest_X10_at_n30 : GoodIn wsX3_firstOfFewest (wsX10_at) := ggX3_firstOfFewest_X10_at
set_option maxRecDepth 20000 in
theorem ggX3_firstOfFewest_X3_without : GoodIn wsX3_firstOfFewest wsX3_without := goodIn_r _ [29] (by decide +kernel) (by decide +kernel)
set_option maxRecDepth 20000 in
theorem gX3_firstOfFewest_X3_without : GoodIn wsX3_firstOfFewest (va_wsS RX3 70 yX3_without wsX3_without) := goodIn_app (goodIn_of _ (by decide +kernel)) ggX3_firstOfFewest_X3_without
theorem dX3_firstOfFewest_0 : decode cX3_firstOfFewest 0 = .ok (.aload_n 0, 1) := by decide +kernel
