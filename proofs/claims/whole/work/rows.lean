section
-- ===== PART A: goes FIRST, ahead of the names: the tables' words, and 'selects' of the private methods out of them =====
/-- a private method of a class that the tables say can be made, by its rows of tables_1 -/
def lw_okq (q : MethodName × Nat) : Prop := (q.1.cls ≠ "java/lang/invoke/MethodHandle" ∧ q.1.cls ≠ "java/lang/invoke/VarHandle") ∧ Cond.instantiable q.1.cls q.2 ∈ tables_1 ∧ Cond.privateMethod q.1 ∈ tables_1 ∧ Cond.instanceMethod q.1 ∈ tables_1
theorem lw_p0 : lw_okq (⟨"QuotaMeter", "tenantAt", "(I)LQuotaMeter$Tenant;"⟩, 10) := ⟨⟨by decide +kernel, by decide +kernel⟩, List.mem_of_getElem? (i := 13) (by decide +kernel), List.mem_of_getElem? (i := 176) (by decide +kernel), List.mem_of_getElem? (i := 177) (by decide +kernel)⟩
theorem lw_p1 : lw_okq (⟨"QuotaMeter", "accountAt", "(I)LQuotaMeter$Account;"⟩, 10) := ⟨⟨by decide +kernel, by decide +kernel⟩, List.mem_of_getElem? (i := 13) (by decide +kernel), List.mem_of_getElem? (i := 180) (by decide +kernel), List.mem_of_getElem? (i := 181) (by decide +kernel)⟩
theorem lw_p2 : lw_okq (⟨"QuotaMeter", "endOldHolds", "()V"⟩, 10) := ⟨⟨by decide +kernel, by decide +kernel⟩, List.mem_of_getElem? (i := 13) (by decide +kernel), List.mem_of_getElem? (i := 225) (by decide +kernel), List.mem_of_getElem? (i := 226) (by decide +kernel)⟩
theorem lw_p3 : lw_okq (⟨"QuotaMeter", "openHoldAt", "(I)LQuotaMeter$Hold;"⟩, 10) := ⟨⟨by decide +kernel, by decide +kernel⟩, List.mem_of_getElem? (i := 13) (by decide +kernel), List.mem_of_getElem? (i := 229) (by decide +kernel), List.mem_of_getElem? (i := 230) (by decide +kernel)⟩
theorem lw_p4 : lw_okq (⟨"QuotaMeter", "holdAt", "(I)LQuotaMeter$Hold;"⟩, 10) := ⟨⟨by decide +kernel, by decide +kernel⟩, List.mem_of_getElem? (i := 13) (by decide +kernel), List.mem_of_getElem? (i := 233) (by decide +kernel), List.mem_of_getElem? (i := 234) (by decide +kernel)⟩
theorem lw_p5 : lw_okq (⟨"QuotaMeter", "endHold", "(LQuotaMeter$Hold;)V"⟩, 10) := ⟨⟨by decide +kernel, by decide +kernel⟩, List.mem_of_getElem? (i := 13) (by decide +kernel), List.mem_of_getElem? (i := 237) (by decide +kernel), List.mem_of_getElem? (i := 238) (by decide +kernel)⟩
theorem lw_p6 : lw_okq (⟨"QuotaMeter", "countUnits", "(LQuotaMeter$Account;III)I"⟩, 10) := ⟨⟨by decide +kernel, by decide +kernel⟩, List.mem_of_getElem? (i := 13) (by decide +kernel), List.mem_of_getElem? (i := 264) (by decide +kernel), List.mem_of_getElem? (i := 265) (by decide +kernel)⟩
theorem lw_p7 : lw_okq (⟨"QuotaMeter", "quantityOf", "(LQuotaMeter$Tenant;II)J"⟩, 10) := ⟨⟨by decide +kernel, by decide +kernel⟩, List.mem_of_getElem? (i := 13) (by decide +kernel), List.mem_of_getElem? (i := 268) (by decide +kernel), List.mem_of_getElem? (i := 269) (by decide +kernel)⟩
theorem lw_p8 : lw_okq (⟨"QuotaMeter$Prices", "costAtLastTier", "(J)J"⟩, 6) := ⟨⟨by decide +kernel, by decide +kernel⟩, List.mem_of_getElem? (i := 75) (by decide +kernel), List.mem_of_getElem? (i := 280) (by decide +kernel), List.mem_of_getElem? (i := 281) (by decide +kernel)⟩
theorem lw_p9 : lw_okq (⟨"QuotaMeter$Prices", "costByTiers", "(J)J"⟩, 6) := ⟨⟨by decide +kernel, by decide +kernel⟩, List.mem_of_getElem? (i := 75) (by decide +kernel), List.mem_of_getElem? (i := 284) (by decide +kernel), List.mem_of_getElem? (i := 285) (by decide +kernel)⟩
theorem lw_p10 : lw_okq (⟨"QuotaMeter$Prices", "pricedParts", "(J)J"⟩, 6) := ⟨⟨by decide +kernel, by decide +kernel⟩, List.mem_of_getElem? (i := 75) (by decide +kernel), List.mem_of_getElem? (i := 291) (by decide +kernel), List.mem_of_getElem? (i := 292) (by decide +kernel)⟩
theorem lw_p11 : lw_okq (⟨"QuotaMeter", "pricesAt", "(II)LQuotaMeter$Prices;"⟩, 10) := ⟨⟨by decide +kernel, by decide +kernel⟩, List.mem_of_getElem? (i := 13) (by decide +kernel), List.mem_of_getElem? (i := 356) (by decide +kernel), List.mem_of_getElem? (i := 357) (by decide +kernel)⟩
theorem lw_p12 : lw_okq (⟨"QuotaMeter$Prices", "wouldRise", "(IJI)Z"⟩, 6) := ⟨⟨by decide +kernel, by decide +kernel⟩, List.mem_of_getElem? (i := 75) (by decide +kernel), List.mem_of_getElem? (i := 373) (by decide +kernel), List.mem_of_getElem? (i := 374) (by decide +kernel)⟩
theorem lw_p13 : lw_okq (⟨"QuotaMeter$CreditBook", "countLasting", "()I"⟩, 3) := ⟨⟨by decide +kernel, by decide +kernel⟩, List.mem_of_getElem? (i := 58) (by decide +kernel), List.mem_of_getElem? (i := 409) (by decide +kernel), List.mem_of_getElem? (i := 410) (by decide +kernel)⟩
theorem lw_p14 : lw_okq (⟨"QuotaMeter", "billUsage", "(LQuotaMeter$Invoice;LQuotaMeter$Tenant;)V"⟩, 10) := ⟨⟨by decide +kernel, by decide +kernel⟩, List.mem_of_getElem? (i := 13) (by decide +kernel), List.mem_of_getElem? (i := 457) (by decide +kernel), List.mem_of_getElem? (i := 458) (by decide +kernel)⟩
theorem lw_p15 : lw_okq (⟨"QuotaMeter$CreditBook", "nextToUse", "()I"⟩, 3) := ⟨⟨by decide +kernel, by decide +kernel⟩, List.mem_of_getElem? (i := 58) (by decide +kernel), List.mem_of_getElem? (i := 496) (by decide +kernel), List.mem_of_getElem? (i := 497) (by decide +kernel)⟩
def lw_privs_1 : List (MethodName × Nat) := [(⟨"QuotaMeter", "tenantAt", "(I)LQuotaMeter$Tenant;"⟩, 10), (⟨"QuotaMeter", "accountAt", "(I)LQuotaMeter$Account;"⟩, 10), (⟨"QuotaMeter", "endOldHolds", "()V"⟩, 10), (⟨"QuotaMeter", "openHoldAt", "(I)LQuotaMeter$Hold;"⟩, 10), (⟨"QuotaMeter", "holdAt", "(I)LQuotaMeter$Hold;"⟩, 10), (⟨"QuotaMeter", "endHold", "(LQuotaMeter$Hold;)V"⟩, 10), (⟨"QuotaMeter", "countUnits", "(LQuotaMeter$Account;III)I"⟩, 10), (⟨"QuotaMeter", "quantityOf", "(LQuotaMeter$Tenant;II)J"⟩, 10), (⟨"QuotaMeter$Prices", "costAtLastTier", "(J)J"⟩, 6), (⟨"QuotaMeter$Prices", "costByTiers", "(J)J"⟩, 6), (⟨"QuotaMeter$Prices", "pricedParts", "(J)J"⟩, 6), (⟨"QuotaMeter", "pricesAt", "(II)LQuotaMeter$Prices;"⟩, 10), (⟨"QuotaMeter$Prices", "wouldRise", "(IJI)Z"⟩, 6), (⟨"QuotaMeter$CreditBook", "countLasting", "()I"⟩, 3), (⟨"QuotaMeter", "billUsage", "(LQuotaMeter$Invoice;LQuotaMeter$Tenant;)V"⟩, 10), (⟨"QuotaMeter$CreditBook", "nextToUse", "()I"⟩, 3)]
theorem lw_r1 : ∀ q ∈ lw_privs_1, lw_okq q := List.forall_mem_cons.mpr ⟨lw_p0, List.forall_mem_cons.mpr ⟨lw_p1, List.forall_mem_cons.mpr ⟨lw_p2, List.forall_mem_cons.mpr ⟨lw_p3, List.forall_mem_cons.mpr ⟨lw_p4, List.forall_mem_cons.mpr ⟨lw_p5, List.forall_mem_cons.mpr ⟨lw_p6, List.forall_mem_cons.mpr ⟨lw_p7, List.forall_mem_cons.mpr ⟨lw_p8, List.forall_mem_cons.mpr ⟨lw_p9, List.forall_mem_cons.mpr ⟨lw_p10, List.forall_mem_cons.mpr ⟨lw_p11, List.forall_mem_cons.mpr ⟨lw_p12, List.forall_mem_cons.mpr ⟨lw_p13, List.forall_mem_cons.mpr ⟨lw_p14, List.forall_mem_cons.mpr ⟨lw_p15, fun _ h => absurd h List.not_mem_nil⟩⟩⟩⟩⟩⟩⟩⟩⟩⟩⟩⟩⟩⟩⟩⟩
theorem lw_p16 : lw_okq (⟨"QuotaMeter", "invoiceAt", "(I)LQuotaMeter$Invoice;"⟩, 10) := ⟨⟨by decide +kernel, by decide +kernel⟩, List.mem_of_getElem? (i := 13) (by decide +kernel), List.mem_of_getElem? (i := 534) (by decide +kernel), List.mem_of_getElem? (i := 535) (by decide +kernel)⟩
theorem lw_p17 : lw_okq (⟨"QuotaMeterModel", "isAccount", "(I)Z"⟩, 32) := ⟨⟨by decide +kernel, by decide +kernel⟩, List.mem_of_getElem? (i := 563) (by decide +kernel), List.mem_of_getElem? (i := 561) (by decide +kernel), List.mem_of_getElem? (i := 562) (by decide +kernel)⟩
theorem lw_p18 : lw_okq (⟨"QuotaMeterModel", "come", "(JIIII)I"⟩, 32) := ⟨⟨by decide +kernel, by decide +kernel⟩, List.mem_of_getElem? (i := 563) (by decide +kernel), List.mem_of_getElem? (i := 587) (by decide +kernel), List.mem_of_getElem? (i := 588) (by decide +kernel)⟩
theorem lw_p19 : lw_okq (⟨"QuotaMeterModel", "forget", "()V"⟩, 32) := ⟨⟨by decide +kernel, by decide +kernel⟩, List.mem_of_getElem? (i := 563) (by decide +kernel), List.mem_of_getElem? (i := 591) (by decide +kernel), List.mem_of_getElem? (i := 592) (by decide +kernel)⟩
theorem lw_p20 : lw_okq (⟨"QuotaMeterModel", "adjust", "(IIII)V"⟩, 32) := ⟨⟨by decide +kernel, by decide +kernel⟩, List.mem_of_getElem? (i := 563) (by decide +kernel), List.mem_of_getElem? (i := 595) (by decide +kernel), List.mem_of_getElem? (i := 596) (by decide +kernel)⟩
theorem lw_p21 : lw_okq (⟨"QuotaMeterModel", "invoiceOf", "(II)I"⟩, 32) := ⟨⟨by decide +kernel, by decide +kernel⟩, List.mem_of_getElem? (i := 563) (by decide +kernel), List.mem_of_getElem? (i := 599) (by decide +kernel), List.mem_of_getElem? (i := 600) (by decide +kernel)⟩
theorem lw_p22 : lw_okq (⟨"QuotaMeterModel", "quantity", "(III)J"⟩, 32) := ⟨⟨by decide +kernel, by decide +kernel⟩, List.mem_of_getElem? (i := 563) (by decide +kernel), List.mem_of_getElem? (i := 603) (by decide +kernel), List.mem_of_getElem? (i := 604) (by decide +kernel)⟩
theorem lw_p23 : lw_okq (⟨"QuotaMeterModel", "costOf", "(IJ)J"⟩, 32) := ⟨⟨by decide +kernel, by decide +kernel⟩, List.mem_of_getElem? (i := 563) (by decide +kernel), List.mem_of_getElem? (i := 610) (by decide +kernel), List.mem_of_getElem? (i := 611) (by decide +kernel)⟩
theorem lw_p24 : lw_okq (⟨"QuotaMeterModel", "usedOf", "(III)J"⟩, 32) := ⟨⟨by decide +kernel, by decide +kernel⟩, List.mem_of_getElem? (i := 563) (by decide +kernel), List.mem_of_getElem? (i := 620) (by decide +kernel), List.mem_of_getElem? (i := 621) (by decide +kernel)⟩
theorem lw_p25 : lw_okq (⟨"QuotaMeterModel", "lies", "(II)Z"⟩, 32) := ⟨⟨by decide +kernel, by decide +kernel⟩, List.mem_of_getElem? (i := 563) (by decide +kernel), List.mem_of_getElem? (i := 624) (by decide +kernel), List.mem_of_getElem? (i := 625) (by decide +kernel)⟩
theorem lw_p26 : lw_okq (⟨"QuotaMeterModel", "heldOf", "(II)I"⟩, 32) := ⟨⟨by decide +kernel, by decide +kernel⟩, List.mem_of_getElem? (i := 563) (by decide +kernel), List.mem_of_getElem? (i := 633) (by decide +kernel), List.mem_of_getElem? (i := 634) (by decide +kernel)⟩
theorem lw_p27 : lw_okq (⟨"QuotaMeterModel", "isOpen", "(I)Z"⟩, 32) := ⟨⟨by decide +kernel, by decide +kernel⟩, List.mem_of_getElem? (i := 563) (by decide +kernel), List.mem_of_getElem? (i := 637) (by decide +kernel), List.mem_of_getElem? (i := 638) (by decide +kernel)⟩
theorem lw_p28 : lw_okq (⟨"QuotaMeterModel", "roomOf", "(II)J"⟩, 32) := ⟨⟨by decide +kernel, by decide +kernel⟩, List.mem_of_getElem? (i := 563) (by decide +kernel), List.mem_of_getElem? (i := 645) (by decide +kernel), List.mem_of_getElem? (i := 646) (by decide +kernel)⟩
theorem lw_p29 : lw_okq (⟨"QuotaMeterModel", "open", "()I"⟩, 32) := ⟨⟨by decide +kernel, by decide +kernel⟩, List.mem_of_getElem? (i := 563) (by decide +kernel), List.mem_of_getElem? (i := 655) (by decide +kernel), List.mem_of_getElem? (i := 656) (by decide +kernel)⟩
theorem lw_p30 : lw_okq (⟨"QuotaMeterModel", "leftOf", "(II)J"⟩, 32) := ⟨⟨by decide +kernel, by decide +kernel⟩, List.mem_of_getElem? (i := 563) (by decide +kernel), List.mem_of_getElem? (i := 804) (by decide +kernel), List.mem_of_getElem? (i := 805) (by decide +kernel)⟩
theorem lw_p31 : lw_okq (⟨"QuotaMeterModel", "line", "(IIJJ)V"⟩, 32) := ⟨⟨by decide +kernel, by decide +kernel⟩, List.mem_of_getElem? (i := 563) (by decide +kernel), List.mem_of_getElem? (i := 819) (by decide +kernel), List.mem_of_getElem? (i := 820) (by decide +kernel)⟩
def lw_privs_2 : List (MethodName × Nat) := [(⟨"QuotaMeter", "invoiceAt", "(I)LQuotaMeter$Invoice;"⟩, 10), (⟨"QuotaMeterModel", "isAccount", "(I)Z"⟩, 32), (⟨"QuotaMeterModel", "come", "(JIIII)I"⟩, 32), (⟨"QuotaMeterModel", "forget", "()V"⟩, 32), (⟨"QuotaMeterModel", "adjust", "(IIII)V"⟩, 32), (⟨"QuotaMeterModel", "invoiceOf", "(II)I"⟩, 32), (⟨"QuotaMeterModel", "quantity", "(III)J"⟩, 32), (⟨"QuotaMeterModel", "costOf", "(IJ)J"⟩, 32), (⟨"QuotaMeterModel", "usedOf", "(III)J"⟩, 32), (⟨"QuotaMeterModel", "lies", "(II)Z"⟩, 32), (⟨"QuotaMeterModel", "heldOf", "(II)I"⟩, 32), (⟨"QuotaMeterModel", "isOpen", "(I)Z"⟩, 32), (⟨"QuotaMeterModel", "roomOf", "(II)J"⟩, 32), (⟨"QuotaMeterModel", "open", "()I"⟩, 32), (⟨"QuotaMeterModel", "leftOf", "(II)J"⟩, 32), (⟨"QuotaMeterModel", "line", "(IIJJ)V"⟩, 32)]
theorem lw_r2 : ∀ q ∈ lw_privs_2, lw_okq q := List.forall_mem_cons.mpr ⟨lw_p16, List.forall_mem_cons.mpr ⟨lw_p17, List.forall_mem_cons.mpr ⟨lw_p18, List.forall_mem_cons.mpr ⟨lw_p19, List.forall_mem_cons.mpr ⟨lw_p20, List.forall_mem_cons.mpr ⟨lw_p21, List.forall_mem_cons.mpr ⟨lw_p22, List.forall_mem_cons.mpr ⟨lw_p23, List.forall_mem_cons.mpr ⟨lw_p24, List.forall_mem_cons.mpr ⟨lw_p25, List.forall_mem_cons.mpr ⟨lw_p26, List.forall_mem_cons.mpr ⟨lw_p27, List.forall_mem_cons.mpr ⟨lw_p28, List.forall_mem_cons.mpr ⟨lw_p29, List.forall_mem_cons.mpr ⟨lw_p30, List.forall_mem_cons.mpr ⟨lw_p31, fun _ h => absurd h List.not_mem_nil⟩⟩⟩⟩⟩⟩⟩⟩⟩⟩⟩⟩⟩⟩⟩⟩
theorem lw_p32 : lw_okq (⟨"QuotaMeterModel", "useCredits", "(IIJ)V"⟩, 32) := ⟨⟨by decide +kernel, by decide +kernel⟩, List.mem_of_getElem? (i := 563) (by decide +kernel), List.mem_of_getElem? (i := 830) (by decide +kernel), List.mem_of_getElem? (i := 831) (by decide +kernel)⟩
def lw_privs_3 : List (MethodName × Nat) := [(⟨"QuotaMeterModel", "useCredits", "(IIJ)V"⟩, 32)]
theorem lw_r3 : ∀ q ∈ lw_privs_3, lw_okq q := List.forall_mem_cons.mpr ⟨lw_p32, fun _ h => absurd h List.not_mem_nil⟩
def lw_privs : List (MethodName × Nat) := lw_privs_1 ++ (lw_privs_2 ++ (lw_privs_3))
def lw_tbl : List Cond := k2_sels lw_privs ++ tables_1
theorem lw_privs_ok : ∀ q ∈ lw_privs, lw_okq q := by
  show ∀ q ∈ lw_privs_1 ++ (lw_privs_2 ++ (lw_privs_3)), lw_okq q
  exact List.forall_mem_append.mpr ⟨lw_r1, List.forall_mem_append.mpr ⟨lw_r2, lw_r3⟩⟩
-- ===== end of PART A; then your names; then what follows =====
end
section
def RX0 : String := "QuotaMeter$Account"
def TX0 : u_T := fun k => match k with
  | 0 => ("QuotaMeter$Account", "number", "I", true)
  | 1 => ("QuotaMeter$Account", "owner", "LQuotaMeter$Tenant;", true)
  | 2 => ("QuotaMeter$Account", "outer", "LQuotaMeter$Account;", true)
  | 3 => ("QuotaMeter$Account", "usedUnits", "[[J", true)
  | 4 => ("QuotaMeter$Account", "heldUnits", "[I", true)
  | _ => ("QuotaMeter$Account", "limits", "[I", true)
def tyX0 : Nat → FieldType := fun k => match k with
  | 0 => .int
  | 1 => .object "QuotaMeter$Tenant"
  | 2 => .object "QuotaMeter$Account"
  | 3 => .array (.array .long)
  | 4 => .array .int
  | _ => .array .int
abbrev wsX00 : List Cond := u_ws RX0 TX0 6
theorem nmX0 : ∀ a, a < 6 → ∀ b, b < 6 → a ≠ b → (TX0 a).2.1 ≠ (TX0 b).2.1 := by decide +kernel
theorem tyX0_ok : ∀ k, k < 6 → parseFieldDescriptor (TX0 k).2.2.1 = some (tyX0 k) := by decide +kernel
abbrev cX0_init : ByteArray := prog_2_method_1_code
def yX0_init : MethodName := ⟨RX0, "<init>", "(ILQuotaMeter$Tenant;LQuotaMeter$Account;)V"⟩
abbrev cX0_addUsed : ByteArray := prog_2_method_2_code
def yX0_addUsed : MethodName := ⟨RX0, "addUsed", "(III)V"⟩
abbrev cX0_addHeld : ByteArray := prog_2_method_3_code
def yX0_addHeld : MethodName := ⟨RX0, "addHeld", "(II)V"⟩
abbrev cX0_freeUnits : ByteArray := prog_2_method_4_code
def yX0_freeUnits : MethodName := ⟨RX0, "freeUnits", "(II)I"⟩
def RX1 : String := "QuotaMeter$CreditBook"
def TX1 : u_T := fun k => match k with
  | 0 => ("QuotaMeter$CreditBook", "lefts", "[J", true)
  | 1 => ("QuotaMeter$CreditBook", "lastPeriods", "[I", true)
  | _ => ("QuotaMeter$CreditBook", "given", "I", false)
def tyX1 : Nat → FieldType := fun k => match k with
  | 0 => .array .long
  | 1 => .array .int
  | _ => .int
abbrev wsX10 : List Cond := u_ws RX1 TX1 3
theorem nmX1 : ∀ a, a < 3 → ∀ b, b < 3 → a ≠ b → (TX1 a).2.1 ≠ (TX1 b).2.1 := by decide +kernel
theorem tyX1_ok : ∀ k, k < 3 → parseFieldDescriptor (TX1 k).2.2.1 = some (tyX1 k) := by decide +kernel
abbrev cX1_init : ByteArray := prog_3_method_1_code
def yX1_init : MethodName := ⟨RX1, "<init>", "()V"⟩
abbrev cX1_give : ByteArray := prog_3_method_2_code
def yX1_give : MethodName := ⟨RX1, "give", "(JI)I"⟩
abbrev cX1_countLasting : ByteArray := prog_3_method_3_code
def yX1_countLasting : MethodName := ⟨RX1, "countLasting", "()I"⟩
abbrev cX1_payFor : ByteArray := prog_3_method_4_code
def yX1_payFor : MethodName := ⟨RX1, "payFor", "(LQuotaMeter$Invoice;)V"⟩
abbrev cX1_nextToUse : ByteArray := prog_3_method_5_code
def yX1_nextToUse : MethodName := ⟨RX1, "nextToUse", "()I"⟩
abbrev cX1_endIn : ByteArray := prog_3_method_6_code
def yX1_endIn : MethodName := ⟨RX1, "endIn", "(I)V"⟩
def RX2 : String := "QuotaMeter$Hold"
def TX2 : u_T := fun k => match k with
  | 0 => ("QuotaMeter$Hold", "user", "LQuotaMeter$Account;", true)
  | 1 => ("QuotaMeter$Hold", "resource", "I", true)
  | 2 => ("QuotaMeter$Hold", "units", "I", true)
  | 3 => ("QuotaMeter$Hold", "minute", "I", true)
  | _ => ("QuotaMeter$Hold", "isOpen", "Z", false)
def tyX2 : Nat → FieldType := fun k => match k with
  | 0 => .object "QuotaMeter$Account"
  | 1 => .int
  | 2 => .int
  | 3 => .int
  | _ => .boolean
abbrev wsX20 : List Cond := u_ws RX2 TX2 5
theorem nmX2 : ∀ a, a < 5 → ∀ b, b < 5 → a ≠ b → (TX2 a).2.1 ≠ (TX2 b).2.1 := by decide +kernel
theorem tyX2_ok : ∀ k, k < 5 → parseFieldDescriptor (TX2 k).2.2.1 = some (tyX2 k) := by decide +kernel
abbrev cX2_init : ByteArray := prog_4_method_1_code
def yX2_init : MethodName := ⟨RX2, "<init>", "(LQuotaMeter$Account;III)V"⟩
def RX3 : String := "QuotaMeter$Invoice"
def TX3 : u_T := fun k => match k with
  | 0 => ("QuotaMeter$Invoice", "tenant", "I", true)
  | 1 => ("QuotaMeter$Invoice", "period", "I", true)
  | 2 => ("QuotaMeter$Invoice", "kinds", "[I", true)
  | 3 => ("QuotaMeter$Invoice", "resources", "[I", true)
  | 4 => ("QuotaMeter$Invoice", "quantities", "[J", true)
  | 5 => ("QuotaMeter$Invoice", "moneys", "[J", true)
  | 6 => ("QuotaMeter$Invoice", "lineCount", "I", false)
  | _ => ("QuotaMeter$Invoice", "sum", "J", false)
def tyX3 : Nat → FieldType := fun k => match k with
  | 0 => .int
  | 1 => .int
  | 2 => .array .int
  | 3 => .array .int
  | 4 => .array .long
  | 5 => .array .long
  | 6 => .int
  | _ => .long
abbrev wsX30 : List Cond := u_ws RX3 TX3 8
theorem nmX3 : ∀ a, a < 8 → ∀ b, b < 8 → a ≠ b → (TX3 a).2.1 ≠ (TX3 b).2.1 := by decide +kernel
theorem tyX3_ok : ∀ k, k < 8 → parseFieldDescriptor (TX3 k).2.2.1 = some (tyX3 k) := by decide +kernel
abbrev cX3_init : ByteArray := prog_5_method_1_code
def yX3_init : MethodName := ⟨RX3, "<init>", "(II)V"⟩
abbrev cX3_add : ByteArray := prog_5_method_2_code
def yX3_add : MethodName := ⟨RX3, "add", "(IIJJ)V"⟩
abbrev cX3_addSome : ByteArray := prog_5_method_3_code
def yX3_addSome : MethodName := ⟨RX3, "addSome", "(IJ)V"⟩
abbrev cX3_partOfSum : ByteArray := prog_5_method_4_code
def yX3_partOfSum : MethodName := ⟨RX3, "partOfSum", "(I)J"⟩
def RX4 : String := "QuotaMeter$KeyBook"
def TX4 : u_T := fun k => match k with
  | 0 => ("QuotaMeter$KeyBook", "keys", "[J", true)
  | 1 => ("QuotaMeter$KeyBook", "tenants", "[I", true)
  | 2 => ("QuotaMeter$KeyBook", "minutes", "[I", true)
  | _ => ("QuotaMeter$KeyBook", "known", "I", false)
def tyX4 : Nat → FieldType := fun k => match k with
  | 0 => .array .long
  | 1 => .array .int
  | 2 => .array .int
  | _ => .int
abbrev wsX40 : List Cond := u_ws RX4 TX4 4
theorem nmX4 : ∀ a, a < 4 → ∀ b, b < 4 → a ≠ b → (TX4 a).2.1 ≠ (TX4 b).2.1 := by decide +kernel
theorem tyX4_ok : ∀ k, k < 4 → parseFieldDescriptor (TX4 k).2.2.1 = some (tyX4 k) := by decide +kernel
abbrev cX4_init : ByteArray := prog_6_method_1_code
def yX4_init : MethodName := ⟨RX4, "<init>", "()V"⟩
abbrev cX4_knows : ByteArray := prog_6_method_2_code
def yX4_knows : MethodName := ⟨RX4, "knows", "(IJ)Z"⟩
abbrev cX4_learn : ByteArray := prog_6_method_3_code
def yX4_learn : MethodName := ⟨RX4, "learn", "(IJI)Z"⟩
abbrev cX4_forgetOld : ByteArray := prog_6_method_4_code
def yX4_forgetOld : MethodName := ⟨RX4, "forgetOld", "(I)V"⟩
def RX5 : String := "QuotaMeter$Prices"
def TX5 : u_T := fun k => match k with
  | 0 => ("QuotaMeter$Prices", "lasts", "[J", true)
  | 1 => ("QuotaMeter$Prices", "prices", "[I", true)
  | 2 => ("QuotaMeter$Prices", "fees", "[I", true)
  | 3 => ("QuotaMeter$Prices", "tierCount", "I", false)
  | 4 => ("QuotaMeter$Prices", "mode", "I", false)
  | _ => ("QuotaMeter$Prices", "size", "I", false)
def tyX5 : Nat → FieldType := fun k => match k with
  | 0 => .array .long
  | 1 => .array .int
  | 2 => .array .int
  | 3 => .int
  | 4 => .int
  | _ => .int
abbrev wsX50 : List Cond := u_ws RX5 TX5 6
theorem nmX5 : ∀ a, a < 6 → ∀ b, b < 6 → a ≠ b → (TX5 a).2.1 ≠ (TX5 b).2.1 := by decide +kernel
theorem tyX5_ok : ∀ k, k < 6 → parseFieldDescriptor (TX5 k).2.2.1 = some (tyX5 k) := by decide +kernel
abbrev cX5_init : ByteArray := prog_7_method_1_code
def yX5_init : MethodName := ⟨RX5, "<init>", "()V"⟩
abbrev cX5_putTier : ByteArray := prog_7_method_2_code
def yX5_putTier : MethodName := ⟨RX5, "putTier", "(IJII)Z"⟩
abbrev cX5_wouldRise : ByteArray := prog_7_method_3_code
def yX5_wouldRise : MethodName := ⟨RX5, "wouldRise", "(IJI)Z"⟩
abbrev cX5_costOf : ByteArray := prog_7_method_4_code
def yX5_costOf : MethodName := ⟨RX5, "costOf", "(J)J"⟩
abbrev cX5_costAtLastTier : ByteArray := prog_7_method_5_code
def yX5_costAtLastTier : MethodName := ⟨RX5, "costAtLastTier", "(J)J"⟩
abbrev cX5_costByTiers : ByteArray := prog_7_method_6_code
def yX5_costByTiers : MethodName := ⟨RX5, "costByTiers", "(J)J"⟩
abbrev cX5_pricedParts : ByteArray := prog_7_method_7_code
def yX5_pricedParts : MethodName := ⟨RX5, "pricedParts", "(J)J"⟩
abbrev cX5_copyFrom : ByteArray := prog_7_method_8_code
def yX5_copyFrom : MethodName := ⟨RX5, "copyFrom", "(LQuotaMeter$Prices;)V"⟩
def RX6 : String := "QuotaMeter$Tenant"
def TX6 : u_T := fun k => match k with
  | 0 => ("QuotaMeter$Tenant", "number", "I", true)
  | 1 => ("QuotaMeter$Tenant", "prices", "[LQuotaMeter$Prices;", true)
  | 2 => ("QuotaMeter$Tenant", "closedPrices", "[LQuotaMeter$Prices;", true)
  | 3 => ("QuotaMeter$Tenant", "adjustedUnits", "[J", true)
  | 4 => ("QuotaMeter$Tenant", "adjustedMoney", "[J", true)
  | 5 => ("QuotaMeter$Tenant", "credits", "LQuotaMeter$CreditBook;", true)
  | 6 => ("QuotaMeter$Tenant", "closedPeriods", "I", false)
  | 7 => ("QuotaMeter$Tenant", "discount", "I", false)
  | 8 => ("QuotaMeter$Tenant", "minimum", "J", false)
  | _ => ("QuotaMeter$Tenant", "tax", "I", false)
def tyX6 : Nat → FieldType := fun k => match k with
  | 0 => .int
  | 1 => .array (.object "QuotaMeter$Prices")
  | 2 => .array (.object "QuotaMeter$Prices")
  | 3 => .array .long
  | 4 => .array .long
  | 5 => .object "QuotaMeter$CreditBook"
  | 6 => .int
  | 7 => .int
  | 8 => .long
  | _ => .int
abbrev wsX60 : List Cond := u_ws RX6 TX6 10
theorem nmX6 : ∀ a, a < 10 → ∀ b, b < 10 → a ≠ b → (TX6 a).2.1 ≠ (TX6 b).2.1 := by decide +kernel
theorem tyX6_ok : ∀ k, k < 10 → parseFieldDescriptor (TX6 k).2.2.1 = some (tyX6 k) := by decide +kernel
abbrev cX6_init : ByteArray := prog_8_method_1_code
def yX6_init : MethodName := ⟨RX6, "<init>", "(I)V"⟩
abbrev cX6_adjust : ByteArray := prog_8_method_2_code
def yX6_adjust : MethodName := ⟨RX6, "adjust", "(IJI)V"⟩
abbrev cX6_billAdjustments : ByteArray := prog_8_method_3_code
def yX6_billAdjustments : MethodName := ⟨RX6, "billAdjustments", "(LQuotaMeter$Invoice;)V"⟩
abbrev cX6_billTerms : ByteArray := prog_8_method_4_code
def yX6_billTerms : MethodName := ⟨RX6, "billTerms", "(LQuotaMeter$Invoice;)V"⟩
abbrev cX6_endPeriod : ByteArray := prog_8_method_5_code
def yX6_endPeriod : MethodName := ⟨RX6, "endPeriod", "()V"⟩
def RX7 : String := "QuotaMeter"
def TX7 : u_T := fun k => match k with
  | 0 => ("QuotaMeter", "tenants", "[LQuotaMeter$Tenant;", true)
  | 1 => ("QuotaMeter", "accounts", "[LQuotaMeter$Account;", true)
  | 2 => ("QuotaMeter", "holds", "[LQuotaMeter$Hold;", true)
  | 3 => ("QuotaMeter", "invoices", "[LQuotaMeter$Invoice;", true)
  | 4 => ("QuotaMeter", "keys", "LQuotaMeter$KeyBook;", true)
  | 5 => ("QuotaMeter", "now", "I", false)
  | 6 => ("QuotaMeter", "accountCount", "I", false)
  | 7 => ("QuotaMeter", "holdCount", "I", false)
  | 8 => ("QuotaMeter", "openCount", "I", false)
  | _ => ("QuotaMeter", "invoiceCount", "I", false)
def tyX7 : Nat → FieldType := fun k => match k with
  | 0 => .array (.object "QuotaMeter$Tenant")
  | 1 => .array (.object "QuotaMeter$Account")
  | 2 => .array (.object "QuotaMeter$Hold")
  | 3 => .array (.object "QuotaMeter$Invoice")
  | 4 => .object "QuotaMeter$KeyBook"
  | 5 => .int
  | 6 => .int
  | 7 => .int
  | 8 => .int
  | _ => .int
abbrev wsX70 : List Cond := u_ws RX7 TX7 10
theorem nmX7 : ∀ a, a < 10 → ∀ b, b < 10 → a ≠ b → (TX7 a).2.1 ≠ (TX7 b).2.1 := by decide +kernel
theorem tyX7_ok : ∀ k, k < 10 → parseFieldDescriptor (TX7 k).2.2.1 = some (tyX7 k) := by decide +kernel
abbrev cX7_init : ByteArray := prog_1_method_1_code
def yX7_init : MethodName := ⟨RX7, "<init>", "()V"⟩
abbrev cX7_account : ByteArray := prog_1_method_2_code
def yX7_account : MethodName := ⟨RX7, "account", "(II)I"⟩
abbrev cX7_tick : ByteArray := prog_1_method_3_code
def yX7_tick : MethodName := ⟨RX7, "tick", "(I)I"⟩
abbrev cX7_event : ByteArray := prog_1_method_4_code
def yX7_event : MethodName := ⟨RX7, "event", "(JIIII)I"⟩
abbrev cX7_limit : ByteArray := prog_1_method_5_code
def yX7_limit : MethodName := ⟨RX7, "limit", "(III)I"⟩
abbrev cX7_request : ByteArray := prog_1_method_6_code
def yX7_request : MethodName := ⟨RX7, "request", "(III)I"⟩
abbrev cX7_settle : ByteArray := prog_1_method_7_code
def yX7_settle : MethodName := ⟨RX7, "settle", "(IIJ)I"⟩
abbrev cX7_drop : ByteArray := prog_1_method_8_code
def yX7_drop : MethodName := ⟨RX7, "drop", "(I)I"⟩
abbrev cX7_mode : ByteArray := prog_1_method_9_code
def yX7_mode : MethodName := ⟨RX7, "mode", "(IIII)I"⟩
abbrev cX7_tier : ByteArray := prog_1_method_10_code
def yX7_tier : MethodName := ⟨RX7, "tier", "(IIIJII)I"⟩
abbrev cX7_tiers : ByteArray := prog_1_method_11_code
def yX7_tiers : MethodName := ⟨RX7, "tiers", "(III)I"⟩
abbrev cX7_cost : ByteArray := prog_1_method_12_code
def yX7_cost : MethodName := ⟨RX7, "cost", "(IIJ)J"⟩
abbrev cX7_terms : ByteArray := prog_1_method_13_code
def yX7_terms : MethodName := ⟨RX7, "terms", "(IIJI)I"⟩
abbrev cX7_credit : ByteArray := prog_1_method_14_code
def yX7_credit : MethodName := ⟨RX7, "credit", "(IJI)I"⟩
abbrev cX7_close : ByteArray := prog_1_method_15_code
def yX7_close : MethodName := ⟨RX7, "close", "(I)I"⟩
abbrev cX7_used : ByteArray := prog_1_method_16_code
def yX7_used : MethodName := ⟨RX7, "used", "(III)J"⟩
abbrev cX7_held : ByteArray := prog_1_method_17_code
def yX7_held : MethodName := ⟨RX7, "held", "(II)I"⟩
abbrev cX7_room : ByteArray := prog_1_method_18_code
def yX7_room : MethodName := ⟨RX7, "room", "(II)I"⟩
abbrev cX7_hold : ByteArray := prog_1_method_19_code
def yX7_hold : MethodName := ⟨RX7, "hold", "(II)I"⟩
abbrev cX7_line : ByteArray := prog_1_method_20_code
def yX7_line : MethodName := ⟨RX7, "line", "(III)J"⟩
abbrev cX7_invoice : ByteArray := prog_1_method_21_code
def yX7_invoice : MethodName := ⟨RX7, "invoice", "(II)J"⟩
abbrev cX7_left : ByteArray := prog_1_method_22_code
def yX7_left : MethodName := ⟨RX7, "left", "(II)J"⟩
abbrev cX7_count : ByteArray := prog_1_method_23_code
def yX7_count : MethodName := ⟨RX7, "count", "(I)I"⟩
abbrev cX7_closed : ByteArray := prog_1_method_24_code
def yX7_closed : MethodName := ⟨RX7, "closed", "(I)I"⟩
abbrev cX7_isResource : ByteArray := prog_1_method_25_code
def yX7_isResource : MethodName := ⟨RX7, "isResource", "(I)Z"⟩
abbrev cX7_isPeriod : ByteArray := prog_1_method_26_code
def yX7_isPeriod : MethodName := ⟨RX7, "isPeriod", "(I)Z"⟩
abbrev cX7_isUnits : ByteArray := prog_1_method_27_code
def yX7_isUnits : MethodName := ⟨RX7, "isUnits", "(I)Z"⟩
abbrev cX7_isRate : ByteArray := prog_1_method_28_code
def yX7_isRate : MethodName := ⟨RX7, "isRate", "(I)Z"⟩
abbrev cX7_tenantAt : ByteArray := prog_1_method_29_code
def yX7_tenantAt : MethodName := ⟨RX7, "tenantAt", "(I)LQuotaMeter$Tenant;"⟩
abbrev cX7_accountAt : ByteArray := prog_1_method_30_code
def yX7_accountAt : MethodName := ⟨RX7, "accountAt", "(I)LQuotaMeter$Account;"⟩
abbrev cX7_holdAt : ByteArray := prog_1_method_31_code
def yX7_holdAt : MethodName := ⟨RX7, "holdAt", "(I)LQuotaMeter$Hold;"⟩
abbrev cX7_openHoldAt : ByteArray := prog_1_method_32_code
def yX7_openHoldAt : MethodName := ⟨RX7, "openHoldAt", "(I)LQuotaMeter$Hold;"⟩
abbrev cX7_invoiceAt : ByteArray := prog_1_method_33_code
def yX7_invoiceAt : MethodName := ⟨RX7, "invoiceAt", "(I)LQuotaMeter$Invoice;"⟩
abbrev cX7_pricesAt : ByteArray := prog_1_method_34_code
def yX7_pricesAt : MethodName := ⟨RX7, "pricesAt", "(II)LQuotaMeter$Prices;"⟩
abbrev cX7_countUnits : ByteArray := prog_1_method_35_code
def yX7_countUnits : MethodName := ⟨RX7, "countUnits", "(LQuotaMeter$Account;III)I"⟩
abbrev cX7_quantityOf : ByteArray := prog_1_method_36_code
def yX7_quantityOf : MethodName := ⟨RX7, "quantityOf", "(LQuotaMeter$Tenant;II)J"⟩
abbrev cX7_billUsage : ByteArray := prog_1_method_37_code
def yX7_billUsage : MethodName := ⟨RX7, "billUsage", "(LQuotaMeter$Invoice;LQuotaMeter$Tenant;)V"⟩
abbrev cX7_endOldHolds : ByteArray := prog_1_method_38_code
def yX7_endOldHolds : MethodName := ⟨RX7, "endOldHolds", "()V"⟩
abbrev cX7_endHold : ByteArray := prog_1_method_39_code
def yX7_endHold : MethodName := ⟨RX7, "endHold", "(LQuotaMeter$Hold;)V"⟩
def RX8 : String := "QuotaMeterModel"
def TX8 : u_T := fun k => match k with
  | 0 => ("QuotaMeterModel", "now", "I", false)
  | 1 => ("QuotaMeterModel", "accounts", "I", false)
  | 2 => ("QuotaMeterModel", "tenantOf", "[I", true)
  | 3 => ("QuotaMeterModel", "inOf", "[I", true)
  | 4 => ("QuotaMeterModel", "limits", "[I", true)
  | 5 => ("QuotaMeterModel", "sums", "[J", true)
  | 6 => ("QuotaMeterModel", "keys", "I", false)
  | 7 => ("QuotaMeterModel", "keyOf", "[J", true)
  | 8 => ("QuotaMeterModel", "keyTenants", "[I", true)
  | 9 => ("QuotaMeterModel", "keyMinutes", "[I", true)
  | 10 => ("QuotaMeterModel", "holds", "I", false)
  | 11 => ("QuotaMeterModel", "holdAccounts", "[I", true)
  | 12 => ("QuotaMeterModel", "holdResources", "[I", true)
  | 13 => ("QuotaMeterModel", "holdUnits", "[I", true)
  | 14 => ("QuotaMeterModel", "holdMinutes", "[I", true)
  | 15 => ("QuotaMeterModel", "holdGone", "[Z", true)
  | 16 => ("QuotaMeterModel", "prices", "[J", true)
  | 17 => ("QuotaMeterModel", "discounts", "[I", true)
  | 18 => ("QuotaMeterModel", "minima", "[J", true)
  | 19 => ("QuotaMeterModel", "taxes", "[I", true)
  | 20 => ("QuotaMeterModel", "credits", "[I", true)
  | 21 => ("QuotaMeterModel", "creditLeft", "[J", true)
  | 22 => ("QuotaMeterModel", "creditLast", "[I", true)
  | 23 => ("QuotaMeterModel", "closed", "[I", true)
  | 24 => ("QuotaMeterModel", "waitingUnits", "[J", true)
  | 25 => ("QuotaMeterModel", "waitingMoney", "[J", true)
  | 26 => ("QuotaMeterModel", "waits", "[Z", true)
  | 27 => ("QuotaMeterModel", "invoices", "I", false)
  | 28 => ("QuotaMeterModel", "invoiceTenants", "[I", true)
  | 29 => ("QuotaMeterModel", "invoicePeriods", "[I", true)
  | 30 => ("QuotaMeterModel", "lineCounts", "[I", true)
  | _ => ("QuotaMeterModel", "lines", "[J", true)
def tyX8 : Nat → FieldType := fun k => match k with
  | 0 => .int
  | 1 => .int
  | 2 => .array .int
  | 3 => .array .int
  | 4 => .array .int
  | 5 => .array .long
  | 6 => .int
  | 7 => .array .long
  | 8 => .array .int
  | 9 => .array .int
  | 10 => .int
  | 11 => .array .int
  | 12 => .array .int
  | 13 => .array .int
  | 14 => .array .int
  | 15 => .array .boolean
  | 16 => .array .long
  | 17 => .array .int
  | 18 => .array .long
  | 19 => .array .int
  | 20 => .array .int
  | 21 => .array .long
  | 22 => .array .int
  | 23 => .array .int
  | 24 => .array .long
  | 25 => .array .long
  | 26 => .array .boolean
  | 27 => .int
  | 28 => .array .int
  | 29 => .array .int
  | 30 => .array .int
  | _ => .array .long
abbrev wsX80 : List Cond := u_ws RX8 TX8 32
theorem nmX8 : ∀ a, a < 32 → ∀ b, b < 32 → a ≠ b → (TX8 a).2.1 ≠ (TX8 b).2.1 := by decide +kernel
theorem tyX8_ok : ∀ k, k < 32 → parseFieldDescriptor (TX8 k).2.2.1 = some (tyX8 k) := by decide +kernel
abbrev cX8_isTenant : ByteArray := prog_10_method_1_code
def yX8_isTenant : MethodName := ⟨RX8, "isTenant", "(I)Z"⟩
abbrev cX8_isResource : ByteArray := prog_10_method_2_code
def yX8_isResource : MethodName := ⟨RX8, "isResource", "(I)Z"⟩
abbrev cX8_isAccount : ByteArray := prog_10_method_3_code
def yX8_isAccount : MethodName := ⟨RX8, "isAccount", "(I)Z"⟩
abbrev cX8_account : ByteArray := prog_10_method_4_code
def yX8_account : MethodName := ⟨RX8, "account", "(II)I"⟩
abbrev cX8_tick : ByteArray := prog_10_method_5_code
def yX8_tick : MethodName := ⟨RX8, "tick", "(I)I"⟩
abbrev cX8_lies : ByteArray := prog_10_method_6_code
def yX8_lies : MethodName := ⟨RX8, "lies", "(II)Z"⟩
abbrev cX8_limit : ByteArray := prog_10_method_7_code
def yX8_limit : MethodName := ⟨RX8, "limit", "(III)I"⟩
abbrev cX8_cell : ByteArray := prog_10_method_8_code
def yX8_cell : MethodName := ⟨RX8, "cell", "(III)I"⟩
abbrev cX8_forget : ByteArray := prog_10_method_9_code
def yX8_forget : MethodName := ⟨RX8, "forget", "()V"⟩
abbrev cX8_come : ByteArray := prog_10_method_10_code
def yX8_come : MethodName := ⟨RX8, "come", "(JIIII)I"⟩
abbrev cX8_areUnits : ByteArray := prog_10_method_11_code
def yX8_areUnits : MethodName := ⟨RX8, "areUnits", "(I)Z"⟩
abbrev cX8_event : ByteArray := prog_10_method_12_code
def yX8_event : MethodName := ⟨RX8, "event", "(JIIII)I"⟩
abbrev cX8_used : ByteArray := prog_10_method_13_code
def yX8_used : MethodName := ⟨RX8, "used", "(III)J"⟩
abbrev cX8_usedOf : ByteArray := prog_10_method_14_code
def yX8_usedOf : MethodName := ⟨RX8, "usedOf", "(III)J"⟩
abbrev cX8_isOpen : ByteArray := prog_10_method_15_code
def yX8_isOpen : MethodName := ⟨RX8, "isOpen", "(I)Z"⟩
abbrev cX8_open : ByteArray := prog_10_method_16_code
def yX8_open : MethodName := ⟨RX8, "open", "()I"⟩
abbrev cX8_held : ByteArray := prog_10_method_17_code
def yX8_held : MethodName := ⟨RX8, "held", "(II)I"⟩
abbrev cX8_heldOf : ByteArray := prog_10_method_18_code
def yX8_heldOf : MethodName := ⟨RX8, "heldOf", "(II)I"⟩
abbrev cX8_roomOf : ByteArray := prog_10_method_19_code
def yX8_roomOf : MethodName := ⟨RX8, "roomOf", "(II)J"⟩
abbrev cX8_room : ByteArray := prog_10_method_20_code
def yX8_room : MethodName := ⟨RX8, "room", "(II)I"⟩
abbrev cX8_request : ByteArray := prog_10_method_21_code
def yX8_request : MethodName := ⟨RX8, "request", "(III)I"⟩
abbrev cX8_settle : ByteArray := prog_10_method_22_code
def yX8_settle : MethodName := ⟨RX8, "settle", "(IIJ)I"⟩
abbrev cX8_drop : ByteArray := prog_10_method_23_code
def yX8_drop : MethodName := ⟨RX8, "drop", "(I)I"⟩
abbrev cX8_hold : ByteArray := prog_10_method_24_code
def yX8_hold : MethodName := ⟨RX8, "hold", "(II)I"⟩
abbrev cX8_init : ByteArray := prog_10_method_25_code
def yX8_init : MethodName := ⟨RX8, "<init>", "()V"⟩
abbrev cX8_row : ByteArray := prog_10_method_26_code
def yX8_row : MethodName := ⟨RX8, "row", "(II)I"⟩
abbrev cX8_mode : ByteArray := prog_10_method_27_code
def yX8_mode : MethodName := ⟨RX8, "mode", "(IIII)I"⟩
abbrev cX8_tier : ByteArray := prog_10_method_28_code
def yX8_tier : MethodName := ⟨RX8, "tier", "(IIIJII)I"⟩
abbrev cX8_tiers : ByteArray := prog_10_method_29_code
def yX8_tiers : MethodName := ⟨RX8, "tiers", "(III)I"⟩
abbrev cX8_cost : ByteArray := prog_10_method_30_code
def yX8_cost : MethodName := ⟨RX8, "cost", "(IIJ)J"⟩
abbrev cX8_costOf : ByteArray := prog_10_method_31_code
def yX8_costOf : MethodName := ⟨RX8, "costOf", "(IJ)J"⟩
abbrev cX8_terms : ByteArray := prog_10_method_32_code
def yX8_terms : MethodName := ⟨RX8, "terms", "(IIJI)I"⟩
abbrev cX8_leftOf : ByteArray := prog_10_method_33_code
def yX8_leftOf : MethodName := ⟨RX8, "leftOf", "(II)J"⟩
abbrev cX8_credit : ByteArray := prog_10_method_34_code
def yX8_credit : MethodName := ⟨RX8, "credit", "(IJI)I"⟩
abbrev cX8_left : ByteArray := prog_10_method_35_code
def yX8_left : MethodName := ⟨RX8, "left", "(II)J"⟩
abbrev cX8_quantity : ByteArray := prog_10_method_36_code
def yX8_quantity : MethodName := ⟨RX8, "quantity", "(III)J"⟩
abbrev cX8_invoiceOf : ByteArray := prog_10_method_37_code
def yX8_invoiceOf : MethodName := ⟨RX8, "invoiceOf", "(II)I"⟩
abbrev cX8_adjust : ByteArray := prog_10_method_38_code
def yX8_adjust : MethodName := ⟨RX8, "adjust", "(IIII)V"⟩
abbrev cX8_part : ByteArray := prog_10_method_39_code
def yX8_part : MethodName := ⟨RX8, "part", "(JI)J"⟩
abbrev cX8_line : ByteArray := prog_10_method_40_code
def yX8_line : MethodName := ⟨RX8, "line", "(IIJJ)V"⟩
abbrev cX8_close : ByteArray := prog_10_method_41_code
def yX8_close : MethodName := ⟨RX8, "close", "(I)I"⟩
abbrev cX8_useCredits : ByteArray := prog_10_method_42_code
def yX8_useCredits : MethodName := ⟨RX8, "useCredits", "(IIJ)V"⟩
abbrev cX8_line_ : ByteArray := prog_10_method_43_code
def yX8_line_ : MethodName := ⟨RX8, "line", "(III)J"⟩
abbrev cX8_invoice : ByteArray := prog_10_method_44_code
def yX8_invoice : MethodName := ⟨RX8, "invoice", "(II)J"⟩
abbrev cX8_count : ByteArray := prog_10_method_45_code
def yX8_count : MethodName := ⟨RX8, "count", "(I)I"⟩
abbrev cX8_closed : ByteArray := prog_10_method_46_code
def yX8_closed : MethodName := ⟨RX8, "closed", "(I)I"⟩
def RJ9 : String := "java/lang/Math"
def TJ9 : u_T := fun k => match k with
  | _ => ("", "", "", false)
def tyJ9 : Nat → FieldType := fun k => match k with
  | _ => .int
abbrev wsJ90 : List Cond := u_ws RJ9 TJ9 0
theorem nmJ9 : ∀ a, a < 0 → ∀ b, b < 0 → a ≠ b → (TJ9 a).2.1 ≠ (TJ9 b).2.1 := by decide +kernel
theorem tyJ9_ok : ∀ k, k < 0 → parseFieldDescriptor (TJ9 k).2.2.1 = some (tyJ9 k) := by decide +kernel
abbrev cJ9_floorDiv_f86c9 : ByteArray := prog_11_method_49_code
def yJ9_floorDiv_f86c9 : MethodName := ⟨RJ9, "floorDiv", "(JJ)J"⟩
abbrev cJ9_floorMod_f86c9 : ByteArray := prog_11_method_52_code
def yJ9_floorMod_f86c9 : MethodName := ⟨RJ9, "floorMod", "(JJ)J"⟩
abbrev cJ9_max_7cf53 : ByteArray := prog_11_method_65_code
def yJ9_max_7cf53 : MethodName := ⟨RJ9, "max", "(II)I"⟩
abbrev cJ9_max_f86c9 : ByteArray := prog_11_method_66_code
def yJ9_max_f86c9 : MethodName := ⟨RJ9, "max", "(JJ)J"⟩
abbrev cJ9_min_7cf53 : ByteArray := prog_11_method_69_code
def yJ9_min_7cf53 : MethodName := ⟨RJ9, "min", "(II)I"⟩
abbrev cJ9_min_f86c9 : ByteArray := prog_11_method_70_code
def yJ9_min_f86c9 : MethodName := ⟨RJ9, "min", "(JJ)J"⟩
def RJ10 : String := "java/lang/System"
def TJ10 : u_T := fun k => match k with
  | _ => ("", "", "", false)
def tyJ10 : Nat → FieldType := fun k => match k with
  | _ => .int
abbrev wsJ100 : List Cond := u_ws RJ10 TJ10 0
theorem nmJ10 : ∀ a, a < 0 → ∀ b, b < 0 → a ≠ b → (TJ10 a).2.1 ≠ (TJ10 b).2.1 := by decide +kernel
theorem tyJ10_ok : ∀ k, k < 0 → parseFieldDescriptor (TJ10 k).2.2.1 = some (tyJ10 k) := by decide +kernel
def RL : String := "QuotaMeterLaw"
abbrev cL_law : ByteArray := code
def yL_law : MethodName := ⟨RL, "law", "([I)Z"⟩
abbrev vwCl : List vw_C := [(RX0, TX0, 6), (RX1, TX1, 3), (RX2, TX2, 5), (RX3, TX3, 8), (RX4, TX4, 4), (RX5, TX5, 6), (RX6, TX6, 10), (RX7, TX7, 10), (RX8, TX8, 32)]
theorem tb_in {w : Cond} (h : w ∈ tables_1) : w ∈ lw_tbl := List.mem_append_right _ h
end
section
theorem dL_law_0 : decode cL_law 0 = .ok (.new 7, 3) := by decide +kernel
theorem dL_law_3 : decode cL_law 3 = .ok (.dup, 1) := by decide +kernel
theorem dL_law_4 : decode cL_law 4 = .ok (.invokespecial 9, 3) := by decide +kernel
theorem dL_law_7 : decode cL_law 7 = .ok (.astore_n 1, 1) := by decide +kernel
theorem dL_law_8 : decode cL_law 8 = .ok (.new 10, 3) := by decide +kernel
theorem dL_law_11 : decode cL_law 11 = .ok (.dup, 1) := by decide +kernel
theorem dL_law_12 : decode cL_law 12 = .ok (.invokespecial 12, 3) := by decide +kernel
theorem dL_law_15 : decode cL_law 15 = .ok (.astore_n 2, 1) := by decide +kernel
theorem dL_law_16 : decode cL_law 16 = .ok (.iconst 0, 1) := by decide +kernel
theorem dL_law_17 : decode cL_law 17 = .ok (.istore_n 3, 1) := by decide +kernel
theorem dL_law_18 : decode cL_law 18 = .ok (.iload_n 3, 1) := by decide +kernel
theorem dL_law_19 : decode cL_law 19 = .ok (.aload_n 0, 1) := by decide +kernel
theorem dL_law_20 : decode cL_law 20 = .ok (.arraylength, 1) := by decide +kernel
theorem dL_law_21 : decode cL_law 21 = .ok (.bipush 8, 2) := by decide +kernel
theorem dL_law_23 : decode cL_law 23 = .ok (.isub, 1) := by decide +kernel
theorem dL_law_24 : decode cL_law 24 = .ok (.if_icmp .gt 1212, 3) := by decide +kernel
theorem dL_law_27 : decode cL_law 27 = .ok (.aload_n 0, 1) := by decide +kernel
theorem dL_law_28 : decode cL_law 28 = .ok (.iload_n 3, 1) := by decide +kernel
theorem dL_law_29 : decode cL_law 29 = .ok (.iaload, 1) := by decide +kernel
theorem dL_law_30 : decode cL_law 30 = .ok (.bipush 31, 2) := by decide +kernel
theorem dL_law_32 : decode cL_law 32 = .ok (.iand, 1) := by decide +kernel
theorem dL_law_33 : decode cL_law 33 = .ok (.tableswitch 1197 0 22 #[107, 140, 163, 258, 301, 344, 417, 440, 493, 600, 643, 717, 800, 873, 896, 940, 973, 1006, 1039, 1083, 1117, 1151, 1174], 107) := by decide +kernel
theorem dL_law_140 : decode cL_law 140 = .ok (.aload_n 1, 1) := by decide +kernel
theorem dL_law_141 : decode cL_law 141 = .ok (.aload_n 0, 1) := by decide +kernel
theorem dL_law_142 : decode cL_law 142 = .ok (.iload_n 3, 1) := by decide +kernel
theorem dL_law_143 : decode cL_law 143 = .ok (.iconst 1, 1) := by decide +kernel
theorem dL_law_144 : decode cL_law 144 = .ok (.iadd, 1) := by decide +kernel
theorem dL_law_145 : decode cL_law 145 = .ok (.iaload, 1) := by decide +kernel
theorem dL_law_146 : decode cL_law 146 = .ok (.aload_n 0, 1) := by decide +kernel
theorem dL_law_147 : decode cL_law 147 = .ok (.iload_n 3, 1) := by decide +kernel
theorem dL_law_148 : decode cL_law 148 = .ok (.iconst 2, 1) := by decide +kernel
theorem dL_law_149 : decode cL_law 149 = .ok (.iadd, 1) := by decide +kernel
theorem dL_law_150 : decode cL_law 150 = .ok (.iaload, 1) := by decide +kernel
theorem dL_law_151 : decode cL_law 151 = .ok (.invokevirtual 13, 3) := by decide +kernel
theorem dL_law_154 : decode cL_law 154 = .ok (.aload_n 2, 1) := by decide +kernel
theorem dL_law_155 : decode cL_law 155 = .ok (.aload_n 0, 1) := by decide +kernel
theorem dL_law_156 : decode cL_law 156 = .ok (.iload_n 3, 1) := by decide +kernel
theorem dL_law_157 : decode cL_law 157 = .ok (.iconst 1, 1) := by decide +kernel
theorem dL_law_158 : decode cL_law 158 = .ok (.iadd, 1) := by decide +kernel
theorem dL_law_159 : decode cL_law 159 = .ok (.iaload, 1) := by decide +kernel
theorem dL_law_160 : decode cL_law 160 = .ok (.aload_n 0, 1) := by decide +kernel
theorem dL_law_161 : decode cL_law 161 = .ok (.iload_n 3, 1) := by decide +kernel
theorem dL_law_162 : decode cL_law 162 = .ok (.iconst 2, 1) := by decide +kernel
theorem dL_law_163 : decode cL_law 163 = .ok (.iadd, 1) := by decide +kernel
theorem dL_law_164 : decode cL_law 164 = .ok (.iaload, 1) := by decide +kernel
theorem dL_law_165 : decode cL_law 165 = .ok (.invokevirtual 17, 3) := by decide +kernel
theorem dL_law_168 : decode cL_law 168 = .ok (.if_icmp .eq 1062, 3) := by decide +kernel
theorem dL_law_171 : decode cL_law 171 = .ok (.iconst 0, 1) := by decide +kernel
theorem dL_law_172 : decode cL_law 172 = .ok (.ireturn, 1) := by decide +kernel
theorem dL_law_173 : decode cL_law 173 = .ok (.aload_n 1, 1) := by decide +kernel
theorem dL_law_174 : decode cL_law 174 = .ok (.aload_n 0, 1) := by decide +kernel
theorem dL_law_175 : decode cL_law 175 = .ok (.iload_n 3, 1) := by decide +kernel
theorem dL_law_176 : decode cL_law 176 = .ok (.iconst 1, 1) := by decide +kernel
theorem dL_law_177 : decode cL_law 177 = .ok (.iadd, 1) := by decide +kernel
theorem dL_law_178 : decode cL_law 178 = .ok (.iaload, 1) := by decide +kernel
theorem dL_law_179 : decode cL_law 179 = .ok (.invokevirtual 18, 3) := by decide +kernel
theorem dL_law_182 : decode cL_law 182 = .ok (.aload_n 2, 1) := by decide +kernel
theorem dL_law_183 : decode cL_law 183 = .ok (.aload_n 0, 1) := by decide +kernel
theorem dL_law_184 : decode cL_law 184 = .ok (.iload_n 3, 1) := by decide +kernel
theorem dL_law_185 : decode cL_law 185 = .ok (.iconst 1, 1) := by decide +kernel
theorem dL_law_186 : decode cL_law 186 = .ok (.iadd, 1) := by decide +kernel
theorem dL_law_187 : decode cL_law 187 = .ok (.iaload, 1) := by decide +kernel
theorem dL_law_188 : decode cL_law 188 = .ok (.invokevirtual 22, 3) := by decide +kernel
theorem dL_law_191 : decode cL_law 191 = .ok (.if_icmp .eq 1039, 3) := by decide +kernel
theorem dL_law_194 : decode cL_law 194 = .ok (.iconst 0, 1) := by decide +kernel
theorem dL_law_195 : decode cL_law 195 = .ok (.ireturn, 1) := by decide +kernel
theorem dL_law_196 : decode cL_law 196 = .ok (.aload_n 1, 1) := by decide +kernel
theorem dL_law_197 : decode cL_law 197 = .ok (.aload_n 0, 1) := by decide +kernel
theorem dL_law_198 : decode cL_law 198 = .ok (.iload_n 3, 1) := by decide +kernel
theorem dL_law_199 : decode cL_law 199 = .ok (.iconst 1, 1) := by decide +kernel
theorem dL_law_200 : decode cL_law 200 = .ok (.iadd, 1) := by decide +kernel
theorem dL_law_201 : decode cL_law 201 = .ok (.iaload, 1) := by decide +kernel
theorem dL_law_202 : decode cL_law 202 = .ok (.i2l, 1) := by decide +kernel
theorem dL_law_203 : decode cL_law 203 = .ok (.bipush 32, 2) := by decide +kernel
theorem dL_law_205 : decode cL_law 205 = .ok (.lshl, 1) := by decide +kernel
theorem dL_law_206 : decode cL_law 206 = .ok (.aload_n 0, 1) := by decide +kernel
theorem dL_law_207 : decode cL_law 207 = .ok (.iload_n 3, 1) := by decide +kernel
theorem dL_law_208 : decode cL_law 208 = .ok (.iconst 2, 1) := by decide +kernel
theorem dL_law_209 : decode cL_law 209 = .ok (.iadd, 1) := by decide +kernel
theorem dL_law_210 : decode cL_law 210 = .ok (.iaload, 1) := by decide +kernel
theorem dL_law_211 : decode cL_law 211 = .ok (.i2l, 1) := by decide +kernel
theorem dL_law_212 : decode cL_law 212 = .ok (.ldc2_w 23, 3) := by decide +kernel
theorem dL_law_215 : decode cL_law 215 = .ok (.land, 1) := by decide +kernel
theorem dL_law_216 : decode cL_law 216 = .ok (.lor, 1) := by decide +kernel
theorem dL_law_217 : decode cL_law 217 = .ok (.aload_n 0, 1) := by decide +kernel
theorem dL_law_218 : decode cL_law 218 = .ok (.iload_n 3, 1) := by decide +kernel
theorem dL_law_219 : decode cL_law 219 = .ok (.iconst 3, 1) := by decide +kernel
theorem dL_law_220 : decode cL_law 220 = .ok (.iadd, 1) := by decide +kernel
theorem dL_law_221 : decode cL_law 221 = .ok (.iaload, 1) := by decide +kernel
theorem dL_law_222 : decode cL_law 222 = .ok (.aload_n 0, 1) := by decide +kernel
theorem dL_law_223 : decode cL_law 223 = .ok (.iload_n 3, 1) := by decide +kernel
theorem dL_law_224 : decode cL_law 224 = .ok (.iconst 4, 1) := by decide +kernel
theorem dL_law_225 : decode cL_law 225 = .ok (.iadd, 1) := by decide +kernel
theorem dL_law_226 : decode cL_law 226 = .ok (.iaload, 1) := by decide +kernel
theorem dL_law_227 : decode cL_law 227 = .ok (.aload_n 0, 1) := by decide +kernel
theorem dL_law_228 : decode cL_law 228 = .ok (.iload_n 3, 1) := by decide +kernel
theorem dL_law_229 : decode cL_law 229 = .ok (.iconst 5, 1) := by decide +kernel
theorem dL_law_230 : decode cL_law 230 = .ok (.iadd, 1) := by decide +kernel
theorem dL_law_231 : decode cL_law 231 = .ok (.iaload, 1) := by decide +kernel
theorem dL_law_232 : decode cL_law 232 = .ok (.aload_n 0, 1) := by decide +kernel
theorem dL_law_233 : decode cL_law 233 = .ok (.iload_n 3, 1) := by decide +kernel
theorem dL_law_234 : decode cL_law 234 = .ok (.bipush 6, 2) := by decide +kernel
theorem dL_law_236 : decode cL_law 236 = .ok (.iadd, 1) := by decide +kernel
theorem dL_law_237 : decode cL_law 237 = .ok (.iaload, 1) := by decide +kernel
theorem dL_law_238 : decode cL_law 238 = .ok (.invokevirtual 25, 3) := by decide +kernel
theorem dL_law_241 : decode cL_law 241 = .ok (.aload_n 2, 1) := by decide +kernel
theorem dL_law_242 : decode cL_law 242 = .ok (.aload_n 0, 1) := by decide +kernel
theorem dL_law_243 : decode cL_law 243 = .ok (.iload_n 3, 1) := by decide +kernel
theorem dL_law_244 : decode cL_law 244 = .ok (.iconst 1, 1) := by decide +kernel
theorem dL_law_245 : decode cL_law 245 = .ok (.iadd, 1) := by decide +kernel
theorem dL_law_246 : decode cL_law 246 = .ok (.iaload, 1) := by decide +kernel
theorem dL_law_247 : decode cL_law 247 = .ok (.i2l, 1) := by decide +kernel
theorem dL_law_248 : decode cL_law 248 = .ok (.bipush 32, 2) := by decide +kernel
theorem dL_law_250 : decode cL_law 250 = .ok (.lshl, 1) := by decide +kernel
theorem dL_law_251 : decode cL_law 251 = .ok (.aload_n 0, 1) := by decide +kernel
theorem dL_law_252 : decode cL_law 252 = .ok (.iload_n 3, 1) := by decide +kernel
theorem dL_law_253 : decode cL_law 253 = .ok (.iconst 2, 1) := by decide +kernel
theorem dL_law_254 : decode cL_law 254 = .ok (.iadd, 1) := by decide +kernel
theorem dL_law_255 : decode cL_law 255 = .ok (.iaload, 1) := by decide +kernel
theorem dL_law_256 : decode cL_law 256 = .ok (.i2l, 1) := by decide +kernel
theorem dL_law_257 : decode cL_law 257 = .ok (.ldc2_w 23, 3) := by decide +kernel
theorem dL_law_260 : decode cL_law 260 = .ok (.land, 1) := by decide +kernel
theorem dL_law_261 : decode cL_law 261 = .ok (.lor, 1) := by decide +kernel
theorem dL_law_262 : decode cL_law 262 = .ok (.aload_n 0, 1) := by decide +kernel
theorem dL_law_263 : decode cL_law 263 = .ok (.iload_n 3, 1) := by decide +kernel
theorem dL_law_264 : decode cL_law 264 = .ok (.iconst 3, 1) := by decide +kernel
theorem dL_law_265 : decode cL_law 265 = .ok (.iadd, 1) := by decide +kernel
theorem dL_law_266 : decode cL_law 266 = .ok (.iaload, 1) := by decide +kernel
theorem dL_law_267 : decode cL_law 267 = .ok (.aload_n 0, 1) := by decide +kernel
theorem dL_law_268 : decode cL_law 268 = .ok (.iload_n 3, 1) := by decide +kernel
theorem dL_law_269 : decode cL_law 269 = .ok (.iconst 4, 1) := by decide +kernel
theorem dL_law_270 : decode cL_law 270 = .ok (.iadd, 1) := by decide +kernel
theorem dL_law_271 : decode cL_law 271 = .ok (.iaload, 1) := by decide +kernel
theorem dL_law_272 : decode cL_law 272 = .ok (.aload_n 0, 1) := by decide +kernel
theorem dL_law_273 : decode cL_law 273 = .ok (.iload_n 3, 1) := by decide +kernel
theorem dL_law_274 : decode cL_law 274 = .ok (.iconst 5, 1) := by decide +kernel
theorem dL_law_275 : decode cL_law 275 = .ok (.iadd, 1) := by decide +kernel
theorem dL_law_276 : decode cL_law 276 = .ok (.iaload, 1) := by decide +kernel
theorem dL_law_277 : decode cL_law 277 = .ok (.aload_n 0, 1) := by decide +kernel
theorem dL_law_278 : decode cL_law 278 = .ok (.iload_n 3, 1) := by decide +kernel
theorem dL_law_279 : decode cL_law 279 = .ok (.bipush 6, 2) := by decide +kernel
theorem dL_law_281 : decode cL_law 281 = .ok (.iadd, 1) := by decide +kernel
theorem dL_law_282 : decode cL_law 282 = .ok (.iaload, 1) := by decide +kernel
theorem dL_law_283 : decode cL_law 283 = .ok (.invokevirtual 29, 3) := by decide +kernel
theorem dL_law_286 : decode cL_law 286 = .ok (.if_icmp .eq 944, 3) := by decide +kernel
theorem dL_law_289 : decode cL_law 289 = .ok (.iconst 0, 1) := by decide +kernel
theorem dL_law_290 : decode cL_law 290 = .ok (.ireturn, 1) := by decide +kernel
theorem dL_law_291 : decode cL_law 291 = .ok (.aload_n 1, 1) := by decide +kernel
theorem dL_law_292 : decode cL_law 292 = .ok (.aload_n 0, 1) := by decide +kernel
theorem dL_law_293 : decode cL_law 293 = .ok (.iload_n 3, 1) := by decide +kernel
theorem dL_law_294 : decode cL_law 294 = .ok (.iconst 1, 1) := by decide +kernel
theorem dL_law_295 : decode cL_law 295 = .ok (.iadd, 1) := by decide +kernel
theorem dL_law_296 : decode cL_law 296 = .ok (.iaload, 1) := by decide +kernel
theorem dL_law_297 : decode cL_law 297 = .ok (.aload_n 0, 1) := by decide +kernel
theorem dL_law_298 : decode cL_law 298 = .ok (.iload_n 3, 1) := by decide +kernel
theorem dL_law_299 : decode cL_law 299 = .ok (.iconst 2, 1) := by decide +kernel
theorem dL_law_300 : decode cL_law 300 = .ok (.iadd, 1) := by decide +kernel
theorem dL_law_301 : decode cL_law 301 = .ok (.iaload, 1) := by decide +kernel
theorem dL_law_302 : decode cL_law 302 = .ok (.aload_n 0, 1) := by decide +kernel
theorem dL_law_303 : decode cL_law 303 = .ok (.iload_n 3, 1) := by decide +kernel
theorem dL_law_304 : decode cL_law 304 = .ok (.iconst 3, 1) := by decide +kernel
theorem dL_law_305 : decode cL_law 305 = .ok (.iadd, 1) := by decide +kernel
theorem dL_law_306 : decode cL_law 306 = .ok (.iaload, 1) := by decide +kernel
theorem dL_law_307 : decode cL_law 307 = .ok (.invokevirtual 30, 3) := by decide +kernel
theorem dL_law_310 : decode cL_law 310 = .ok (.aload_n 2, 1) := by decide +kernel
theorem dL_law_311 : decode cL_law 311 = .ok (.aload_n 0, 1) := by decide +kernel
theorem dL_law_312 : decode cL_law 312 = .ok (.iload_n 3, 1) := by decide +kernel
theorem dL_law_313 : decode cL_law 313 = .ok (.iconst 1, 1) := by decide +kernel
theorem dL_law_314 : decode cL_law 314 = .ok (.iadd, 1) := by decide +kernel
theorem dL_law_315 : decode cL_law 315 = .ok (.iaload, 1) := by decide +kernel
theorem dL_law_316 : decode cL_law 316 = .ok (.aload_n 0, 1) := by decide +kernel
theorem dL_law_317 : decode cL_law 317 = .ok (.iload_n 3, 1) := by decide +kernel
theorem dL_law_318 : decode cL_law 318 = .ok (.iconst 2, 1) := by decide +kernel
theorem dL_law_319 : decode cL_law 319 = .ok (.iadd, 1) := by decide +kernel
theorem dL_law_320 : decode cL_law 320 = .ok (.iaload, 1) := by decide +kernel
theorem dL_law_321 : decode cL_law 321 = .ok (.aload_n 0, 1) := by decide +kernel
theorem dL_law_322 : decode cL_law 322 = .ok (.iload_n 3, 1) := by decide +kernel
theorem dL_law_323 : decode cL_law 323 = .ok (.iconst 3, 1) := by decide +kernel
theorem dL_law_324 : decode cL_law 324 = .ok (.iadd, 1) := by decide +kernel
theorem dL_law_325 : decode cL_law 325 = .ok (.iaload, 1) := by decide +kernel
theorem dL_law_326 : decode cL_law 326 = .ok (.invokevirtual 34, 3) := by decide +kernel
theorem dL_law_329 : decode cL_law 329 = .ok (.if_icmp .eq 901, 3) := by decide +kernel
theorem dL_law_332 : decode cL_law 332 = .ok (.iconst 0, 1) := by decide +kernel
theorem dL_law_333 : decode cL_law 333 = .ok (.ireturn, 1) := by decide +kernel
theorem dL_law_334 : decode cL_law 334 = .ok (.aload_n 1, 1) := by decide +kernel
theorem dL_law_335 : decode cL_law 335 = .ok (.aload_n 0, 1) := by decide +kernel
theorem dL_law_336 : decode cL_law 336 = .ok (.iload_n 3, 1) := by decide +kernel
theorem dL_law_337 : decode cL_law 337 = .ok (.iconst 1, 1) := by decide +kernel
theorem dL_law_338 : decode cL_law 338 = .ok (.iadd, 1) := by decide +kernel
theorem dL_law_339 : decode cL_law 339 = .ok (.iaload, 1) := by decide +kernel
theorem dL_law_340 : decode cL_law 340 = .ok (.aload_n 0, 1) := by decide +kernel
theorem dL_law_341 : decode cL_law 341 = .ok (.iload_n 3, 1) := by decide +kernel
theorem dL_law_342 : decode cL_law 342 = .ok (.iconst 2, 1) := by decide +kernel
theorem dL_law_343 : decode cL_law 343 = .ok (.iadd, 1) := by decide +kernel
theorem dL_law_344 : decode cL_law 344 = .ok (.iaload, 1) := by decide +kernel
theorem dL_law_345 : decode cL_law 345 = .ok (.aload_n 0, 1) := by decide +kernel
theorem dL_law_346 : decode cL_law 346 = .ok (.iload_n 3, 1) := by decide +kernel
theorem dL_law_347 : decode cL_law 347 = .ok (.iconst 3, 1) := by decide +kernel
theorem dL_law_348 : decode cL_law 348 = .ok (.iadd, 1) := by decide +kernel
theorem dL_law_349 : decode cL_law 349 = .ok (.iaload, 1) := by decide +kernel
theorem dL_law_350 : decode cL_law 350 = .ok (.invokevirtual 35, 3) := by decide +kernel
theorem dL_law_353 : decode cL_law 353 = .ok (.aload_n 2, 1) := by decide +kernel
theorem dL_law_354 : decode cL_law 354 = .ok (.aload_n 0, 1) := by decide +kernel
theorem dL_law_355 : decode cL_law 355 = .ok (.iload_n 3, 1) := by decide +kernel
theorem dL_law_356 : decode cL_law 356 = .ok (.iconst 1, 1) := by decide +kernel
theorem dL_law_357 : decode cL_law 357 = .ok (.iadd, 1) := by decide +kernel
theorem dL_law_358 : decode cL_law 358 = .ok (.iaload, 1) := by decide +kernel
theorem dL_law_359 : decode cL_law 359 = .ok (.aload_n 0, 1) := by decide +kernel
theorem dL_law_360 : decode cL_law 360 = .ok (.iload_n 3, 1) := by decide +kernel
theorem dL_law_361 : decode cL_law 361 = .ok (.iconst 2, 1) := by decide +kernel
theorem dL_law_362 : decode cL_law 362 = .ok (.iadd, 1) := by decide +kernel
theorem dL_law_363 : decode cL_law 363 = .ok (.iaload, 1) := by decide +kernel
theorem dL_law_364 : decode cL_law 364 = .ok (.aload_n 0, 1) := by decide +kernel
theorem dL_law_365 : decode cL_law 365 = .ok (.iload_n 3, 1) := by decide +kernel
theorem dL_law_366 : decode cL_law 366 = .ok (.iconst 3, 1) := by decide +kernel
theorem dL_law_367 : decode cL_law 367 = .ok (.iadd, 1) := by decide +kernel
theorem dL_law_368 : decode cL_law 368 = .ok (.iaload, 1) := by decide +kernel
theorem dL_law_369 : decode cL_law 369 = .ok (.invokevirtual 38, 3) := by decide +kernel
theorem dL_law_372 : decode cL_law 372 = .ok (.if_icmp .eq 858, 3) := by decide +kernel
theorem dL_law_375 : decode cL_law 375 = .ok (.iconst 0, 1) := by decide +kernel
theorem dL_law_376 : decode cL_law 376 = .ok (.ireturn, 1) := by decide +kernel
theorem dL_law_377 : decode cL_law 377 = .ok (.aload_n 1, 1) := by decide +kernel
theorem dL_law_378 : decode cL_law 378 = .ok (.aload_n 0, 1) := by decide +kernel
theorem dL_law_379 : decode cL_law 379 = .ok (.iload_n 3, 1) := by decide +kernel
theorem dL_law_380 : decode cL_law 380 = .ok (.iconst 1, 1) := by decide +kernel
theorem dL_law_381 : decode cL_law 381 = .ok (.iadd, 1) := by decide +kernel
theorem dL_law_382 : decode cL_law 382 = .ok (.iaload, 1) := by decide +kernel
theorem dL_law_383 : decode cL_law 383 = .ok (.aload_n 0, 1) := by decide +kernel
theorem dL_law_384 : decode cL_law 384 = .ok (.iload_n 3, 1) := by decide +kernel
theorem dL_law_385 : decode cL_law 385 = .ok (.iconst 2, 1) := by decide +kernel
theorem dL_law_386 : decode cL_law 386 = .ok (.iadd, 1) := by decide +kernel
theorem dL_law_387 : decode cL_law 387 = .ok (.iaload, 1) := by decide +kernel
theorem dL_law_388 : decode cL_law 388 = .ok (.aload_n 0, 1) := by decide +kernel
theorem dL_law_389 : decode cL_law 389 = .ok (.iload_n 3, 1) := by decide +kernel
theorem dL_law_390 : decode cL_law 390 = .ok (.iconst 3, 1) := by decide +kernel
theorem dL_law_391 : decode cL_law 391 = .ok (.iadd, 1) := by decide +kernel
theorem dL_law_392 : decode cL_law 392 = .ok (.iaload, 1) := by decide +kernel
theorem dL_law_393 : decode cL_law 393 = .ok (.i2l, 1) := by decide +kernel
theorem dL_law_394 : decode cL_law 394 = .ok (.bipush 32, 2) := by decide +kernel
theorem dL_law_396 : decode cL_law 396 = .ok (.lshl, 1) := by decide +kernel
theorem dL_law_397 : decode cL_law 397 = .ok (.aload_n 0, 1) := by decide +kernel
theorem dL_law_398 : decode cL_law 398 = .ok (.iload_n 3, 1) := by decide +kernel
theorem dL_law_399 : decode cL_law 399 = .ok (.iconst 4, 1) := by decide +kernel
theorem dL_law_400 : decode cL_law 400 = .ok (.iadd, 1) := by decide +kernel
theorem dL_law_401 : decode cL_law 401 = .ok (.iaload, 1) := by decide +kernel
theorem dL_law_402 : decode cL_law 402 = .ok (.i2l, 1) := by decide +kernel
theorem dL_law_403 : decode cL_law 403 = .ok (.ldc2_w 23, 3) := by decide +kernel
theorem dL_law_406 : decode cL_law 406 = .ok (.land, 1) := by decide +kernel
theorem dL_law_407 : decode cL_law 407 = .ok (.lor, 1) := by decide +kernel
theorem dL_law_408 : decode cL_law 408 = .ok (.invokevirtual 39, 3) := by decide +kernel
theorem dL_law_411 : decode cL_law 411 = .ok (.aload_n 2, 1) := by decide +kernel
theorem dL_law_412 : decode cL_law 412 = .ok (.aload_n 0, 1) := by decide +kernel
theorem dL_law_413 : decode cL_law 413 = .ok (.iload_n 3, 1) := by decide +kernel
theorem dL_law_414 : decode cL_law 414 = .ok (.iconst 1, 1) := by decide +kernel
theorem dL_law_415 : decode cL_law 415 = .ok (.iadd, 1) := by decide +kernel
theorem dL_law_416 : decode cL_law 416 = .ok (.iaload, 1) := by decide +kernel
theorem dL_law_417 : decode cL_law 417 = .ok (.aload_n 0, 1) := by decide +kernel
theorem dL_law_418 : decode cL_law 418 = .ok (.iload_n 3, 1) := by decide +kernel
theorem dL_law_419 : decode cL_law 419 = .ok (.iconst 2, 1) := by decide +kernel
theorem dL_law_420 : decode cL_law 420 = .ok (.iadd, 1) := by decide +kernel
theorem dL_law_421 : decode cL_law 421 = .ok (.iaload, 1) := by decide +kernel
theorem dL_law_422 : decode cL_law 422 = .ok (.aload_n 0, 1) := by decide +kernel
theorem dL_law_423 : decode cL_law 423 = .ok (.iload_n 3, 1) := by decide +kernel
theorem dL_law_424 : decode cL_law 424 = .ok (.iconst 3, 1) := by decide +kernel
theorem dL_law_425 : decode cL_law 425 = .ok (.iadd, 1) := by decide +kernel
theorem dL_law_426 : decode cL_law 426 = .ok (.iaload, 1) := by decide +kernel
theorem dL_law_427 : decode cL_law 427 = .ok (.i2l, 1) := by decide +kernel
theorem dL_law_428 : decode cL_law 428 = .ok (.bipush 32, 2) := by decide +kernel
theorem dL_law_430 : decode cL_law 430 = .ok (.lshl, 1) := by decide +kernel
theorem dL_law_431 : decode cL_law 431 = .ok (.aload_n 0, 1) := by decide +kernel
theorem dL_law_432 : decode cL_law 432 = .ok (.iload_n 3, 1) := by decide +kernel
theorem dL_law_433 : decode cL_law 433 = .ok (.iconst 4, 1) := by decide +kernel
theorem dL_law_434 : decode cL_law 434 = .ok (.iadd, 1) := by decide +kernel
theorem dL_law_435 : decode cL_law 435 = .ok (.iaload, 1) := by decide +kernel
theorem dL_law_436 : decode cL_law 436 = .ok (.i2l, 1) := by decide +kernel
theorem dL_law_437 : decode cL_law 437 = .ok (.ldc2_w 23, 3) := by decide +kernel
theorem dL_law_440 : decode cL_law 440 = .ok (.land, 1) := by decide +kernel
theorem dL_law_441 : decode cL_law 441 = .ok (.lor, 1) := by decide +kernel
theorem dL_law_442 : decode cL_law 442 = .ok (.invokevirtual 43, 3) := by decide +kernel
theorem dL_law_445 : decode cL_law 445 = .ok (.if_icmp .eq 785, 3) := by decide +kernel
theorem dL_law_448 : decode cL_law 448 = .ok (.iconst 0, 1) := by decide +kernel
theorem dL_law_449 : decode cL_law 449 = .ok (.ireturn, 1) := by decide +kernel
theorem dL_law_450 : decode cL_law 450 = .ok (.aload_n 1, 1) := by decide +kernel
theorem dL_law_451 : decode cL_law 451 = .ok (.aload_n 0, 1) := by decide +kernel
theorem dL_law_452 : decode cL_law 452 = .ok (.iload_n 3, 1) := by decide +kernel
theorem dL_law_453 : decode cL_law 453 = .ok (.iconst 1, 1) := by decide +kernel
theorem dL_law_454 : decode cL_law 454 = .ok (.iadd, 1) := by decide +kernel
theorem dL_law_455 : decode cL_law 455 = .ok (.iaload, 1) := by decide +kernel
theorem dL_law_456 : decode cL_law 456 = .ok (.invokevirtual 44, 3) := by decide +kernel
theorem dL_law_459 : decode cL_law 459 = .ok (.aload_n 2, 1) := by decide +kernel
theorem dL_law_460 : decode cL_law 460 = .ok (.aload_n 0, 1) := by decide +kernel
theorem dL_law_461 : decode cL_law 461 = .ok (.iload_n 3, 1) := by decide +kernel
theorem dL_law_462 : decode cL_law 462 = .ok (.iconst 1, 1) := by decide +kernel
theorem dL_law_463 : decode cL_law 463 = .ok (.iadd, 1) := by decide +kernel
theorem dL_law_464 : decode cL_law 464 = .ok (.iaload, 1) := by decide +kernel
theorem dL_law_465 : decode cL_law 465 = .ok (.invokevirtual 47, 3) := by decide +kernel
theorem dL_law_468 : decode cL_law 468 = .ok (.if_icmp .eq 762, 3) := by decide +kernel
theorem dL_law_471 : decode cL_law 471 = .ok (.iconst 0, 1) := by decide +kernel
theorem dL_law_472 : decode cL_law 472 = .ok (.ireturn, 1) := by decide +kernel
theorem dL_law_473 : decode cL_law 473 = .ok (.aload_n 1, 1) := by decide +kernel
theorem dL_law_474 : decode cL_law 474 = .ok (.aload_n 0, 1) := by decide +kernel
theorem dL_law_475 : decode cL_law 475 = .ok (.iload_n 3, 1) := by decide +kernel
theorem dL_law_476 : decode cL_law 476 = .ok (.iconst 1, 1) := by decide +kernel
theorem dL_law_477 : decode cL_law 477 = .ok (.iadd, 1) := by decide +kernel
theorem dL_law_478 : decode cL_law 478 = .ok (.iaload, 1) := by decide +kernel
theorem dL_law_479 : decode cL_law 479 = .ok (.aload_n 0, 1) := by decide +kernel
theorem dL_law_480 : decode cL_law 480 = .ok (.iload_n 3, 1) := by decide +kernel
theorem dL_law_481 : decode cL_law 481 = .ok (.iconst 2, 1) := by decide +kernel
theorem dL_law_482 : decode cL_law 482 = .ok (.iadd, 1) := by decide +kernel
theorem dL_law_483 : decode cL_law 483 = .ok (.iaload, 1) := by decide +kernel
theorem dL_law_484 : decode cL_law 484 = .ok (.aload_n 0, 1) := by decide +kernel
theorem dL_law_485 : decode cL_law 485 = .ok (.iload_n 3, 1) := by decide +kernel
theorem dL_law_486 : decode cL_law 486 = .ok (.iconst 3, 1) := by decide +kernel
theorem dL_law_487 : decode cL_law 487 = .ok (.iadd, 1) := by decide +kernel
theorem dL_law_488 : decode cL_law 488 = .ok (.iaload, 1) := by decide +kernel
theorem dL_law_489 : decode cL_law 489 = .ok (.aload_n 0, 1) := by decide +kernel
theorem dL_law_490 : decode cL_law 490 = .ok (.iload_n 3, 1) := by decide +kernel
theorem dL_law_491 : decode cL_law 491 = .ok (.iconst 4, 1) := by decide +kernel
theorem dL_law_492 : decode cL_law 492 = .ok (.iadd, 1) := by decide +kernel
theorem dL_law_493 : decode cL_law 493 = .ok (.iaload, 1) := by decide +kernel
theorem dL_law_494 : decode cL_law 494 = .ok (.invokevirtual 48, 3) := by decide +kernel
theorem dL_law_497 : decode cL_law 497 = .ok (.aload_n 2, 1) := by decide +kernel
theorem dL_law_498 : decode cL_law 498 = .ok (.aload_n 0, 1) := by decide +kernel
theorem dL_law_499 : decode cL_law 499 = .ok (.iload_n 3, 1) := by decide +kernel
theorem dL_law_500 : decode cL_law 500 = .ok (.iconst 1, 1) := by decide +kernel
theorem dL_law_501 : decode cL_law 501 = .ok (.iadd, 1) := by decide +kernel
theorem dL_law_502 : decode cL_law 502 = .ok (.iaload, 1) := by decide +kernel
theorem dL_law_503 : decode cL_law 503 = .ok (.aload_n 0, 1) := by decide +kernel
theorem dL_law_504 : decode cL_law 504 = .ok (.iload_n 3, 1) := by decide +kernel
theorem dL_law_505 : decode cL_law 505 = .ok (.iconst 2, 1) := by decide +kernel
theorem dL_law_506 : decode cL_law 506 = .ok (.iadd, 1) := by decide +kernel
theorem dL_law_507 : decode cL_law 507 = .ok (.iaload, 1) := by decide +kernel
theorem dL_law_508 : decode cL_law 508 = .ok (.aload_n 0, 1) := by decide +kernel
theorem dL_law_509 : decode cL_law 509 = .ok (.iload_n 3, 1) := by decide +kernel
theorem dL_law_510 : decode cL_law 510 = .ok (.iconst 3, 1) := by decide +kernel
theorem dL_law_511 : decode cL_law 511 = .ok (.iadd, 1) := by decide +kernel
theorem dL_law_512 : decode cL_law 512 = .ok (.iaload, 1) := by decide +kernel
theorem dL_law_513 : decode cL_law 513 = .ok (.aload_n 0, 1) := by decide +kernel
theorem dL_law_514 : decode cL_law 514 = .ok (.iload_n 3, 1) := by decide +kernel
theorem dL_law_515 : decode cL_law 515 = .ok (.iconst 4, 1) := by decide +kernel
theorem dL_law_516 : decode cL_law 516 = .ok (.iadd, 1) := by decide +kernel
theorem dL_law_517 : decode cL_law 517 = .ok (.iaload, 1) := by decide +kernel
theorem dL_law_518 : decode cL_law 518 = .ok (.invokevirtual 52, 3) := by decide +kernel
theorem dL_law_521 : decode cL_law 521 = .ok (.if_icmp .eq 709, 3) := by decide +kernel
theorem dL_law_524 : decode cL_law 524 = .ok (.iconst 0, 1) := by decide +kernel
theorem dL_law_525 : decode cL_law 525 = .ok (.ireturn, 1) := by decide +kernel
theorem dL_law_526 : decode cL_law 526 = .ok (.aload_n 1, 1) := by decide +kernel
theorem dL_law_527 : decode cL_law 527 = .ok (.aload_n 0, 1) := by decide +kernel
theorem dL_law_528 : decode cL_law 528 = .ok (.iload_n 3, 1) := by decide +kernel
theorem dL_law_529 : decode cL_law 529 = .ok (.iconst 1, 1) := by decide +kernel
theorem dL_law_530 : decode cL_law 530 = .ok (.iadd, 1) := by decide +kernel
theorem dL_law_531 : decode cL_law 531 = .ok (.iaload, 1) := by decide +kernel
theorem dL_law_532 : decode cL_law 532 = .ok (.aload_n 0, 1) := by decide +kernel
theorem dL_law_533 : decode cL_law 533 = .ok (.iload_n 3, 1) := by decide +kernel
theorem dL_law_534 : decode cL_law 534 = .ok (.iconst 2, 1) := by decide +kernel
theorem dL_law_535 : decode cL_law 535 = .ok (.iadd, 1) := by decide +kernel
theorem dL_law_536 : decode cL_law 536 = .ok (.iaload, 1) := by decide +kernel
theorem dL_law_537 : decode cL_law 537 = .ok (.aload_n 0, 1) := by decide +kernel
theorem dL_law_538 : decode cL_law 538 = .ok (.iload_n 3, 1) := by decide +kernel
theorem dL_law_539 : decode cL_law 539 = .ok (.iconst 3, 1) := by decide +kernel
theorem dL_law_540 : decode cL_law 540 = .ok (.iadd, 1) := by decide +kernel
theorem dL_law_541 : decode cL_law 541 = .ok (.iaload, 1) := by decide +kernel
theorem dL_law_542 : decode cL_law 542 = .ok (.aload_n 0, 1) := by decide +kernel
theorem dL_law_543 : decode cL_law 543 = .ok (.iload_n 3, 1) := by decide +kernel
theorem dL_law_544 : decode cL_law 544 = .ok (.iconst 4, 1) := by decide +kernel
theorem dL_law_545 : decode cL_law 545 = .ok (.iadd, 1) := by decide +kernel
theorem dL_law_546 : decode cL_law 546 = .ok (.iaload, 1) := by decide +kernel
theorem dL_law_547 : decode cL_law 547 = .ok (.i2l, 1) := by decide +kernel
theorem dL_law_548 : decode cL_law 548 = .ok (.bipush 32, 2) := by decide +kernel
theorem dL_law_550 : decode cL_law 550 = .ok (.lshl, 1) := by decide +kernel
theorem dL_law_551 : decode cL_law 551 = .ok (.aload_n 0, 1) := by decide +kernel
theorem dL_law_552 : decode cL_law 552 = .ok (.iload_n 3, 1) := by decide +kernel
theorem dL_law_553 : decode cL_law 553 = .ok (.iconst 5, 1) := by decide +kernel
theorem dL_law_554 : decode cL_law 554 = .ok (.iadd, 1) := by decide +kernel
theorem dL_law_555 : decode cL_law 555 = .ok (.iaload, 1) := by decide +kernel
theorem dL_law_556 : decode cL_law 556 = .ok (.i2l, 1) := by decide +kernel
theorem dL_law_557 : decode cL_law 557 = .ok (.ldc2_w 23, 3) := by decide +kernel
theorem dL_law_560 : decode cL_law 560 = .ok (.land, 1) := by decide +kernel
theorem dL_law_561 : decode cL_law 561 = .ok (.lor, 1) := by decide +kernel
theorem dL_law_562 : decode cL_law 562 = .ok (.aload_n 0, 1) := by decide +kernel
theorem dL_law_563 : decode cL_law 563 = .ok (.iload_n 3, 1) := by decide +kernel
theorem dL_law_564 : decode cL_law 564 = .ok (.bipush 6, 2) := by decide +kernel
theorem dL_law_566 : decode cL_law 566 = .ok (.iadd, 1) := by decide +kernel
theorem dL_law_567 : decode cL_law 567 = .ok (.iaload, 1) := by decide +kernel
theorem dL_law_568 : decode cL_law 568 = .ok (.aload_n 0, 1) := by decide +kernel
theorem dL_law_569 : decode cL_law 569 = .ok (.iload_n 3, 1) := by decide +kernel
theorem dL_law_570 : decode cL_law 570 = .ok (.bipush 7, 2) := by decide +kernel
theorem dL_law_572 : decode cL_law 572 = .ok (.iadd, 1) := by decide +kernel
theorem dL_law_573 : decode cL_law 573 = .ok (.iaload, 1) := by decide +kernel
theorem dL_law_574 : decode cL_law 574 = .ok (.invokevirtual 53, 3) := by decide +kernel
theorem dL_law_577 : decode cL_law 577 = .ok (.aload_n 2, 1) := by decide +kernel
theorem dL_law_578 : decode cL_law 578 = .ok (.aload_n 0, 1) := by decide +kernel
theorem dL_law_579 : decode cL_law 579 = .ok (.iload_n 3, 1) := by decide +kernel
theorem dL_law_580 : decode cL_law 580 = .ok (.iconst 1, 1) := by decide +kernel
theorem dL_law_581 : decode cL_law 581 = .ok (.iadd, 1) := by decide +kernel
theorem dL_law_582 : decode cL_law 582 = .ok (.iaload, 1) := by decide +kernel
theorem dL_law_583 : decode cL_law 583 = .ok (.aload_n 0, 1) := by decide +kernel
theorem dL_law_584 : decode cL_law 584 = .ok (.iload_n 3, 1) := by decide +kernel
theorem dL_law_585 : decode cL_law 585 = .ok (.iconst 2, 1) := by decide +kernel
theorem dL_law_586 : decode cL_law 586 = .ok (.iadd, 1) := by decide +kernel
theorem dL_law_587 : decode cL_law 587 = .ok (.iaload, 1) := by decide +kernel
theorem dL_law_588 : decode cL_law 588 = .ok (.aload_n 0, 1) := by decide +kernel
theorem dL_law_589 : decode cL_law 589 = .ok (.iload_n 3, 1) := by decide +kernel
theorem dL_law_590 : decode cL_law 590 = .ok (.iconst 3, 1) := by decide +kernel
theorem dL_law_591 : decode cL_law 591 = .ok (.iadd, 1) := by decide +kernel
theorem dL_law_592 : decode cL_law 592 = .ok (.iaload, 1) := by decide +kernel
theorem dL_law_593 : decode cL_law 593 = .ok (.aload_n 0, 1) := by decide +kernel
theorem dL_law_594 : decode cL_law 594 = .ok (.iload_n 3, 1) := by decide +kernel
theorem dL_law_595 : decode cL_law 595 = .ok (.iconst 4, 1) := by decide +kernel
theorem dL_law_596 : decode cL_law 596 = .ok (.iadd, 1) := by decide +kernel
theorem dL_law_597 : decode cL_law 597 = .ok (.iaload, 1) := by decide +kernel
theorem dL_law_598 : decode cL_law 598 = .ok (.i2l, 1) := by decide +kernel
theorem dL_law_599 : decode cL_law 599 = .ok (.bipush 32, 2) := by decide +kernel
theorem dL_law_601 : decode cL_law 601 = .ok (.lshl, 1) := by decide +kernel
theorem dL_law_602 : decode cL_law 602 = .ok (.aload_n 0, 1) := by decide +kernel
theorem dL_law_603 : decode cL_law 603 = .ok (.iload_n 3, 1) := by decide +kernel
theorem dL_law_604 : decode cL_law 604 = .ok (.iconst 5, 1) := by decide +kernel
theorem dL_law_605 : decode cL_law 605 = .ok (.iadd, 1) := by decide +kernel
theorem dL_law_606 : decode cL_law 606 = .ok (.iaload, 1) := by decide +kernel
theorem dL_law_607 : decode cL_law 607 = .ok (.i2l, 1) := by decide +kernel
theorem dL_law_608 : decode cL_law 608 = .ok (.ldc2_w 23, 3) := by decide +kernel
theorem dL_law_611 : decode cL_law 611 = .ok (.land, 1) := by decide +kernel
theorem dL_law_612 : decode cL_law 612 = .ok (.lor, 1) := by decide +kernel
theorem dL_law_613 : decode cL_law 613 = .ok (.aload_n 0, 1) := by decide +kernel
theorem dL_law_614 : decode cL_law 614 = .ok (.iload_n 3, 1) := by decide +kernel
theorem dL_law_615 : decode cL_law 615 = .ok (.bipush 6, 2) := by decide +kernel
theorem dL_law_617 : decode cL_law 617 = .ok (.iadd, 1) := by decide +kernel
theorem dL_law_618 : decode cL_law 618 = .ok (.iaload, 1) := by decide +kernel
theorem dL_law_619 : decode cL_law 619 = .ok (.aload_n 0, 1) := by decide +kernel
theorem dL_law_620 : decode cL_law 620 = .ok (.iload_n 3, 1) := by decide +kernel
theorem dL_law_621 : decode cL_law 621 = .ok (.bipush 7, 2) := by decide +kernel
theorem dL_law_623 : decode cL_law 623 = .ok (.iadd, 1) := by decide +kernel
theorem dL_law_624 : decode cL_law 624 = .ok (.iaload, 1) := by decide +kernel
theorem dL_law_625 : decode cL_law 625 = .ok (.invokevirtual 57, 3) := by decide +kernel
theorem dL_law_628 : decode cL_law 628 = .ok (.if_icmp .eq 602, 3) := by decide +kernel
theorem dL_law_631 : decode cL_law 631 = .ok (.iconst 0, 1) := by decide +kernel
theorem dL_law_632 : decode cL_law 632 = .ok (.ireturn, 1) := by decide +kernel
theorem dL_law_633 : decode cL_law 633 = .ok (.aload_n 1, 1) := by decide +kernel
theorem dL_law_634 : decode cL_law 634 = .ok (.aload_n 0, 1) := by decide +kernel
theorem dL_law_635 : decode cL_law 635 = .ok (.iload_n 3, 1) := by decide +kernel
theorem dL_law_636 : decode cL_law 636 = .ok (.iconst 1, 1) := by decide +kernel
theorem dL_law_637 : decode cL_law 637 = .ok (.iadd, 1) := by decide +kernel
theorem dL_law_638 : decode cL_law 638 = .ok (.iaload, 1) := by decide +kernel
theorem dL_law_639 : decode cL_law 639 = .ok (.aload_n 0, 1) := by decide +kernel
theorem dL_law_640 : decode cL_law 640 = .ok (.iload_n 3, 1) := by decide +kernel
theorem dL_law_641 : decode cL_law 641 = .ok (.iconst 2, 1) := by decide +kernel
theorem dL_law_642 : decode cL_law 642 = .ok (.iadd, 1) := by decide +kernel
theorem dL_law_643 : decode cL_law 643 = .ok (.iaload, 1) := by decide +kernel
theorem dL_law_644 : decode cL_law 644 = .ok (.aload_n 0, 1) := by decide +kernel
theorem dL_law_645 : decode cL_law 645 = .ok (.iload_n 3, 1) := by decide +kernel
theorem dL_law_646 : decode cL_law 646 = .ok (.iconst 3, 1) := by decide +kernel
theorem dL_law_647 : decode cL_law 647 = .ok (.iadd, 1) := by decide +kernel
theorem dL_law_648 : decode cL_law 648 = .ok (.iaload, 1) := by decide +kernel
theorem dL_law_649 : decode cL_law 649 = .ok (.invokevirtual 58, 3) := by decide +kernel
theorem dL_law_652 : decode cL_law 652 = .ok (.aload_n 2, 1) := by decide +kernel
theorem dL_law_653 : decode cL_law 653 = .ok (.aload_n 0, 1) := by decide +kernel
theorem dL_law_654 : decode cL_law 654 = .ok (.iload_n 3, 1) := by decide +kernel
theorem dL_law_655 : decode cL_law 655 = .ok (.iconst 1, 1) := by decide +kernel
theorem dL_law_656 : decode cL_law 656 = .ok (.iadd, 1) := by decide +kernel
theorem dL_law_657 : decode cL_law 657 = .ok (.iaload, 1) := by decide +kernel
theorem dL_law_658 : decode cL_law 658 = .ok (.aload_n 0, 1) := by decide +kernel
theorem dL_law_659 : decode cL_law 659 = .ok (.iload_n 3, 1) := by decide +kernel
theorem dL_law_660 : decode cL_law 660 = .ok (.iconst 2, 1) := by decide +kernel
theorem dL_law_661 : decode cL_law 661 = .ok (.iadd, 1) := by decide +kernel
theorem dL_law_662 : decode cL_law 662 = .ok (.iaload, 1) := by decide +kernel
theorem dL_law_663 : decode cL_law 663 = .ok (.aload_n 0, 1) := by decide +kernel
theorem dL_law_664 : decode cL_law 664 = .ok (.iload_n 3, 1) := by decide +kernel
theorem dL_law_665 : decode cL_law 665 = .ok (.iconst 3, 1) := by decide +kernel
theorem dL_law_666 : decode cL_law 666 = .ok (.iadd, 1) := by decide +kernel
theorem dL_law_667 : decode cL_law 667 = .ok (.iaload, 1) := by decide +kernel
theorem dL_law_668 : decode cL_law 668 = .ok (.invokevirtual 61, 3) := by decide +kernel
theorem dL_law_671 : decode cL_law 671 = .ok (.if_icmp .eq 559, 3) := by decide +kernel
theorem dL_law_674 : decode cL_law 674 = .ok (.iconst 0, 1) := by decide +kernel
theorem dL_law_675 : decode cL_law 675 = .ok (.ireturn, 1) := by decide +kernel
theorem dL_law_676 : decode cL_law 676 = .ok (.aload_n 1, 1) := by decide +kernel
theorem dL_law_677 : decode cL_law 677 = .ok (.aload_n 0, 1) := by decide +kernel
theorem dL_law_678 : decode cL_law 678 = .ok (.iload_n 3, 1) := by decide +kernel
theorem dL_law_679 : decode cL_law 679 = .ok (.iconst 1, 1) := by decide +kernel
theorem dL_law_680 : decode cL_law 680 = .ok (.iadd, 1) := by decide +kernel
theorem dL_law_681 : decode cL_law 681 = .ok (.iaload, 1) := by decide +kernel
theorem dL_law_682 : decode cL_law 682 = .ok (.aload_n 0, 1) := by decide +kernel
theorem dL_law_683 : decode cL_law 683 = .ok (.iload_n 3, 1) := by decide +kernel
theorem dL_law_684 : decode cL_law 684 = .ok (.iconst 2, 1) := by decide +kernel
theorem dL_law_685 : decode cL_law 685 = .ok (.iadd, 1) := by decide +kernel
theorem dL_law_686 : decode cL_law 686 = .ok (.iaload, 1) := by decide +kernel
theorem dL_law_687 : decode cL_law 687 = .ok (.aload_n 0, 1) := by decide +kernel
theorem dL_law_688 : decode cL_law 688 = .ok (.iload_n 3, 1) := by decide +kernel
theorem dL_law_689 : decode cL_law 689 = .ok (.iconst 3, 1) := by decide +kernel
theorem dL_law_690 : decode cL_law 690 = .ok (.iadd, 1) := by decide +kernel
theorem dL_law_691 : decode cL_law 691 = .ok (.iaload, 1) := by decide +kernel
theorem dL_law_692 : decode cL_law 692 = .ok (.i2l, 1) := by decide +kernel
theorem dL_law_693 : decode cL_law 693 = .ok (.bipush 32, 2) := by decide +kernel
theorem dL_law_695 : decode cL_law 695 = .ok (.lshl, 1) := by decide +kernel
theorem dL_law_696 : decode cL_law 696 = .ok (.aload_n 0, 1) := by decide +kernel
theorem dL_law_697 : decode cL_law 697 = .ok (.iload_n 3, 1) := by decide +kernel
theorem dL_law_698 : decode cL_law 698 = .ok (.iconst 4, 1) := by decide +kernel
theorem dL_law_699 : decode cL_law 699 = .ok (.iadd, 1) := by decide +kernel
theorem dL_law_700 : decode cL_law 700 = .ok (.iaload, 1) := by decide +kernel
theorem dL_law_701 : decode cL_law 701 = .ok (.i2l, 1) := by decide +kernel
theorem dL_law_702 : decode cL_law 702 = .ok (.ldc2_w 23, 3) := by decide +kernel
theorem dL_law_705 : decode cL_law 705 = .ok (.land, 1) := by decide +kernel
theorem dL_law_706 : decode cL_law 706 = .ok (.lor, 1) := by decide +kernel
theorem dL_law_707 : decode cL_law 707 = .ok (.invokevirtual 62, 3) := by decide +kernel
theorem dL_law_710 : decode cL_law 710 = .ok (.aload_n 2, 1) := by decide +kernel
theorem dL_law_711 : decode cL_law 711 = .ok (.aload_n 0, 1) := by decide +kernel
theorem dL_law_712 : decode cL_law 712 = .ok (.iload_n 3, 1) := by decide +kernel
theorem dL_law_713 : decode cL_law 713 = .ok (.iconst 1, 1) := by decide +kernel
theorem dL_law_714 : decode cL_law 714 = .ok (.iadd, 1) := by decide +kernel
theorem dL_law_715 : decode cL_law 715 = .ok (.iaload, 1) := by decide +kernel
theorem dL_law_716 : decode cL_law 716 = .ok (.aload_n 0, 1) := by decide +kernel
theorem dL_law_717 : decode cL_law 717 = .ok (.iload_n 3, 1) := by decide +kernel
theorem dL_law_718 : decode cL_law 718 = .ok (.iconst 2, 1) := by decide +kernel
theorem dL_law_719 : decode cL_law 719 = .ok (.iadd, 1) := by decide +kernel
theorem dL_law_720 : decode cL_law 720 = .ok (.iaload, 1) := by decide +kernel
theorem dL_law_721 : decode cL_law 721 = .ok (.aload_n 0, 1) := by decide +kernel
theorem dL_law_722 : decode cL_law 722 = .ok (.iload_n 3, 1) := by decide +kernel
theorem dL_law_723 : decode cL_law 723 = .ok (.iconst 3, 1) := by decide +kernel
theorem dL_law_724 : decode cL_law 724 = .ok (.iadd, 1) := by decide +kernel
theorem dL_law_725 : decode cL_law 725 = .ok (.iaload, 1) := by decide +kernel
theorem dL_law_726 : decode cL_law 726 = .ok (.i2l, 1) := by decide +kernel
theorem dL_law_727 : decode cL_law 727 = .ok (.bipush 32, 2) := by decide +kernel
theorem dL_law_729 : decode cL_law 729 = .ok (.lshl, 1) := by decide +kernel
theorem dL_law_730 : decode cL_law 730 = .ok (.aload_n 0, 1) := by decide +kernel
theorem dL_law_731 : decode cL_law 731 = .ok (.iload_n 3, 1) := by decide +kernel
theorem dL_law_732 : decode cL_law 732 = .ok (.iconst 4, 1) := by decide +kernel
theorem dL_law_733 : decode cL_law 733 = .ok (.iadd, 1) := by decide +kernel
theorem dL_law_734 : decode cL_law 734 = .ok (.iaload, 1) := by decide +kernel
theorem dL_law_735 : decode cL_law 735 = .ok (.i2l, 1) := by decide +kernel
theorem dL_law_736 : decode cL_law 736 = .ok (.ldc2_w 23, 3) := by decide +kernel
theorem dL_law_739 : decode cL_law 739 = .ok (.land, 1) := by decide +kernel
theorem dL_law_740 : decode cL_law 740 = .ok (.lor, 1) := by decide +kernel
theorem dL_law_741 : decode cL_law 741 = .ok (.invokevirtual 66, 3) := by decide +kernel
theorem dL_law_744 : decode cL_law 744 = .ok (.lcmp, 1) := by decide +kernel
theorem dL_law_745 : decode cL_law 745 = .ok (.ifCond .eq 485, 3) := by decide +kernel
theorem dL_law_748 : decode cL_law 748 = .ok (.iconst 0, 1) := by decide +kernel
theorem dL_law_749 : decode cL_law 749 = .ok (.ireturn, 1) := by decide +kernel
theorem dL_law_750 : decode cL_law 750 = .ok (.aload_n 1, 1) := by decide +kernel
theorem dL_law_751 : decode cL_law 751 = .ok (.aload_n 0, 1) := by decide +kernel
theorem dL_law_752 : decode cL_law 752 = .ok (.iload_n 3, 1) := by decide +kernel
theorem dL_law_753 : decode cL_law 753 = .ok (.iconst 1, 1) := by decide +kernel
theorem dL_law_754 : decode cL_law 754 = .ok (.iadd, 1) := by decide +kernel
theorem dL_law_755 : decode cL_law 755 = .ok (.iaload, 1) := by decide +kernel
theorem dL_law_756 : decode cL_law 756 = .ok (.aload_n 0, 1) := by decide +kernel
theorem dL_law_757 : decode cL_law 757 = .ok (.iload_n 3, 1) := by decide +kernel
theorem dL_law_758 : decode cL_law 758 = .ok (.iconst 2, 1) := by decide +kernel
theorem dL_law_759 : decode cL_law 759 = .ok (.iadd, 1) := by decide +kernel
theorem dL_law_760 : decode cL_law 760 = .ok (.iaload, 1) := by decide +kernel
theorem dL_law_761 : decode cL_law 761 = .ok (.aload_n 0, 1) := by decide +kernel
theorem dL_law_762 : decode cL_law 762 = .ok (.iload_n 3, 1) := by decide +kernel
theorem dL_law_763 : decode cL_law 763 = .ok (.iconst 3, 1) := by decide +kernel
theorem dL_law_764 : decode cL_law 764 = .ok (.iadd, 1) := by decide +kernel
theorem dL_law_765 : decode cL_law 765 = .ok (.iaload, 1) := by decide +kernel
theorem dL_law_766 : decode cL_law 766 = .ok (.i2l, 1) := by decide +kernel
theorem dL_law_767 : decode cL_law 767 = .ok (.bipush 32, 2) := by decide +kernel
theorem dL_law_769 : decode cL_law 769 = .ok (.lshl, 1) := by decide +kernel
theorem dL_law_770 : decode cL_law 770 = .ok (.aload_n 0, 1) := by decide +kernel
theorem dL_law_771 : decode cL_law 771 = .ok (.iload_n 3, 1) := by decide +kernel
theorem dL_law_772 : decode cL_law 772 = .ok (.iconst 4, 1) := by decide +kernel
theorem dL_law_773 : decode cL_law 773 = .ok (.iadd, 1) := by decide +kernel
theorem dL_law_774 : decode cL_law 774 = .ok (.iaload, 1) := by decide +kernel
theorem dL_law_775 : decode cL_law 775 = .ok (.i2l, 1) := by decide +kernel
theorem dL_law_776 : decode cL_law 776 = .ok (.ldc2_w 23, 3) := by decide +kernel
theorem dL_law_779 : decode cL_law 779 = .ok (.land, 1) := by decide +kernel
theorem dL_law_780 : decode cL_law 780 = .ok (.lor, 1) := by decide +kernel
theorem dL_law_781 : decode cL_law 781 = .ok (.aload_n 0, 1) := by decide +kernel
theorem dL_law_782 : decode cL_law 782 = .ok (.iload_n 3, 1) := by decide +kernel
theorem dL_law_783 : decode cL_law 783 = .ok (.iconst 5, 1) := by decide +kernel
theorem dL_law_784 : decode cL_law 784 = .ok (.iadd, 1) := by decide +kernel
theorem dL_law_785 : decode cL_law 785 = .ok (.iaload, 1) := by decide +kernel
theorem dL_law_786 : decode cL_law 786 = .ok (.invokevirtual 67, 3) := by decide +kernel
theorem dL_law_789 : decode cL_law 789 = .ok (.aload_n 2, 1) := by decide +kernel
theorem dL_law_790 : decode cL_law 790 = .ok (.aload_n 0, 1) := by decide +kernel
theorem dL_law_791 : decode cL_law 791 = .ok (.iload_n 3, 1) := by decide +kernel
theorem dL_law_792 : decode cL_law 792 = .ok (.iconst 1, 1) := by decide +kernel
theorem dL_law_793 : decode cL_law 793 = .ok (.iadd, 1) := by decide +kernel
theorem dL_law_794 : decode cL_law 794 = .ok (.iaload, 1) := by decide +kernel
theorem dL_law_795 : decode cL_law 795 = .ok (.aload_n 0, 1) := by decide +kernel
theorem dL_law_796 : decode cL_law 796 = .ok (.iload_n 3, 1) := by decide +kernel
theorem dL_law_797 : decode cL_law 797 = .ok (.iconst 2, 1) := by decide +kernel
theorem dL_law_798 : decode cL_law 798 = .ok (.iadd, 1) := by decide +kernel
theorem dL_law_799 : decode cL_law 799 = .ok (.iaload, 1) := by decide +kernel
theorem dL_law_800 : decode cL_law 800 = .ok (.aload_n 0, 1) := by decide +kernel
theorem dL_law_801 : decode cL_law 801 = .ok (.iload_n 3, 1) := by decide +kernel
theorem dL_law_802 : decode cL_law 802 = .ok (.iconst 3, 1) := by decide +kernel
theorem dL_law_803 : decode cL_law 803 = .ok (.iadd, 1) := by decide +kernel
theorem dL_law_804 : decode cL_law 804 = .ok (.iaload, 1) := by decide +kernel
theorem dL_law_805 : decode cL_law 805 = .ok (.i2l, 1) := by decide +kernel
theorem dL_law_806 : decode cL_law 806 = .ok (.bipush 32, 2) := by decide +kernel
theorem dL_law_808 : decode cL_law 808 = .ok (.lshl, 1) := by decide +kernel
theorem dL_law_809 : decode cL_law 809 = .ok (.aload_n 0, 1) := by decide +kernel
theorem dL_law_810 : decode cL_law 810 = .ok (.iload_n 3, 1) := by decide +kernel
theorem dL_law_811 : decode cL_law 811 = .ok (.iconst 4, 1) := by decide +kernel
theorem dL_law_812 : decode cL_law 812 = .ok (.iadd, 1) := by decide +kernel
theorem dL_law_813 : decode cL_law 813 = .ok (.iaload, 1) := by decide +kernel
theorem dL_law_814 : decode cL_law 814 = .ok (.i2l, 1) := by decide +kernel
theorem dL_law_815 : decode cL_law 815 = .ok (.ldc2_w 23, 3) := by decide +kernel
theorem dL_law_818 : decode cL_law 818 = .ok (.land, 1) := by decide +kernel
theorem dL_law_819 : decode cL_law 819 = .ok (.lor, 1) := by decide +kernel
theorem dL_law_820 : decode cL_law 820 = .ok (.aload_n 0, 1) := by decide +kernel
theorem dL_law_821 : decode cL_law 821 = .ok (.iload_n 3, 1) := by decide +kernel
theorem dL_law_822 : decode cL_law 822 = .ok (.iconst 5, 1) := by decide +kernel
theorem dL_law_823 : decode cL_law 823 = .ok (.iadd, 1) := by decide +kernel
theorem dL_law_824 : decode cL_law 824 = .ok (.iaload, 1) := by decide +kernel
theorem dL_law_825 : decode cL_law 825 = .ok (.invokevirtual 71, 3) := by decide +kernel
theorem dL_law_828 : decode cL_law 828 = .ok (.if_icmp .eq 402, 3) := by decide +kernel
theorem dL_law_831 : decode cL_law 831 = .ok (.iconst 0, 1) := by decide +kernel
theorem dL_law_832 : decode cL_law 832 = .ok (.ireturn, 1) := by decide +kernel
theorem dL_law_833 : decode cL_law 833 = .ok (.aload_n 1, 1) := by decide +kernel
theorem dL_law_834 : decode cL_law 834 = .ok (.aload_n 0, 1) := by decide +kernel
theorem dL_law_835 : decode cL_law 835 = .ok (.iload_n 3, 1) := by decide +kernel
theorem dL_law_836 : decode cL_law 836 = .ok (.iconst 1, 1) := by decide +kernel
theorem dL_law_837 : decode cL_law 837 = .ok (.iadd, 1) := by decide +kernel
theorem dL_law_838 : decode cL_law 838 = .ok (.iaload, 1) := by decide +kernel
theorem dL_law_839 : decode cL_law 839 = .ok (.aload_n 0, 1) := by decide +kernel
theorem dL_law_840 : decode cL_law 840 = .ok (.iload_n 3, 1) := by decide +kernel
theorem dL_law_841 : decode cL_law 841 = .ok (.iconst 2, 1) := by decide +kernel
theorem dL_law_842 : decode cL_law 842 = .ok (.iadd, 1) := by decide +kernel
theorem dL_law_843 : decode cL_law 843 = .ok (.iaload, 1) := by decide +kernel
theorem dL_law_844 : decode cL_law 844 = .ok (.i2l, 1) := by decide +kernel
theorem dL_law_845 : decode cL_law 845 = .ok (.bipush 32, 2) := by decide +kernel
theorem dL_law_847 : decode cL_law 847 = .ok (.lshl, 1) := by decide +kernel
theorem dL_law_848 : decode cL_law 848 = .ok (.aload_n 0, 1) := by decide +kernel
theorem dL_law_849 : decode cL_law 849 = .ok (.iload_n 3, 1) := by decide +kernel
theorem dL_law_850 : decode cL_law 850 = .ok (.iconst 3, 1) := by decide +kernel
theorem dL_law_851 : decode cL_law 851 = .ok (.iadd, 1) := by decide +kernel
theorem dL_law_852 : decode cL_law 852 = .ok (.iaload, 1) := by decide +kernel
theorem dL_law_853 : decode cL_law 853 = .ok (.i2l, 1) := by decide +kernel
theorem dL_law_854 : decode cL_law 854 = .ok (.ldc2_w 23, 3) := by decide +kernel
theorem dL_law_857 : decode cL_law 857 = .ok (.land, 1) := by decide +kernel
theorem dL_law_858 : decode cL_law 858 = .ok (.lor, 1) := by decide +kernel
theorem dL_law_859 : decode cL_law 859 = .ok (.aload_n 0, 1) := by decide +kernel
theorem dL_law_860 : decode cL_law 860 = .ok (.iload_n 3, 1) := by decide +kernel
theorem dL_law_861 : decode cL_law 861 = .ok (.iconst 4, 1) := by decide +kernel
theorem dL_law_862 : decode cL_law 862 = .ok (.iadd, 1) := by decide +kernel
theorem dL_law_863 : decode cL_law 863 = .ok (.iaload, 1) := by decide +kernel
theorem dL_law_864 : decode cL_law 864 = .ok (.invokevirtual 72, 3) := by decide +kernel
theorem dL_law_867 : decode cL_law 867 = .ok (.aload_n 2, 1) := by decide +kernel
theorem dL_law_868 : decode cL_law 868 = .ok (.aload_n 0, 1) := by decide +kernel
theorem dL_law_869 : decode cL_law 869 = .ok (.iload_n 3, 1) := by decide +kernel
theorem dL_law_870 : decode cL_law 870 = .ok (.iconst 1, 1) := by decide +kernel
theorem dL_law_871 : decode cL_law 871 = .ok (.iadd, 1) := by decide +kernel
theorem dL_law_872 : decode cL_law 872 = .ok (.iaload, 1) := by decide +kernel
theorem dL_law_873 : decode cL_law 873 = .ok (.aload_n 0, 1) := by decide +kernel
theorem dL_law_874 : decode cL_law 874 = .ok (.iload_n 3, 1) := by decide +kernel
theorem dL_law_875 : decode cL_law 875 = .ok (.iconst 2, 1) := by decide +kernel
theorem dL_law_876 : decode cL_law 876 = .ok (.iadd, 1) := by decide +kernel
theorem dL_law_877 : decode cL_law 877 = .ok (.iaload, 1) := by decide +kernel
theorem dL_law_878 : decode cL_law 878 = .ok (.i2l, 1) := by decide +kernel
theorem dL_law_879 : decode cL_law 879 = .ok (.bipush 32, 2) := by decide +kernel
theorem dL_law_881 : decode cL_law 881 = .ok (.lshl, 1) := by decide +kernel
theorem dL_law_882 : decode cL_law 882 = .ok (.aload_n 0, 1) := by decide +kernel
theorem dL_law_883 : decode cL_law 883 = .ok (.iload_n 3, 1) := by decide +kernel
theorem dL_law_884 : decode cL_law 884 = .ok (.iconst 3, 1) := by decide +kernel
theorem dL_law_885 : decode cL_law 885 = .ok (.iadd, 1) := by decide +kernel
theorem dL_law_886 : decode cL_law 886 = .ok (.iaload, 1) := by decide +kernel
theorem dL_law_887 : decode cL_law 887 = .ok (.i2l, 1) := by decide +kernel
theorem dL_law_888 : decode cL_law 888 = .ok (.ldc2_w 23, 3) := by decide +kernel
theorem dL_law_891 : decode cL_law 891 = .ok (.land, 1) := by decide +kernel
theorem dL_law_892 : decode cL_law 892 = .ok (.lor, 1) := by decide +kernel
theorem dL_law_893 : decode cL_law 893 = .ok (.aload_n 0, 1) := by decide +kernel
theorem dL_law_894 : decode cL_law 894 = .ok (.iload_n 3, 1) := by decide +kernel
theorem dL_law_895 : decode cL_law 895 = .ok (.iconst 4, 1) := by decide +kernel
theorem dL_law_896 : decode cL_law 896 = .ok (.iadd, 1) := by decide +kernel
theorem dL_law_897 : decode cL_law 897 = .ok (.iaload, 1) := by decide +kernel
theorem dL_law_898 : decode cL_law 898 = .ok (.invokevirtual 76, 3) := by decide +kernel
theorem dL_law_901 : decode cL_law 901 = .ok (.if_icmp .eq 329, 3) := by decide +kernel
theorem dL_law_904 : decode cL_law 904 = .ok (.iconst 0, 1) := by decide +kernel
theorem dL_law_905 : decode cL_law 905 = .ok (.ireturn, 1) := by decide +kernel
theorem dL_law_906 : decode cL_law 906 = .ok (.aload_n 1, 1) := by decide +kernel
theorem dL_law_907 : decode cL_law 907 = .ok (.aload_n 0, 1) := by decide +kernel
theorem dL_law_908 : decode cL_law 908 = .ok (.iload_n 3, 1) := by decide +kernel
theorem dL_law_909 : decode cL_law 909 = .ok (.iconst 1, 1) := by decide +kernel
theorem dL_law_910 : decode cL_law 910 = .ok (.iadd, 1) := by decide +kernel
theorem dL_law_911 : decode cL_law 911 = .ok (.iaload, 1) := by decide +kernel
theorem dL_law_912 : decode cL_law 912 = .ok (.invokevirtual 77, 3) := by decide +kernel
theorem dL_law_915 : decode cL_law 915 = .ok (.aload_n 2, 1) := by decide +kernel
theorem dL_law_916 : decode cL_law 916 = .ok (.aload_n 0, 1) := by decide +kernel
theorem dL_law_917 : decode cL_law 917 = .ok (.iload_n 3, 1) := by decide +kernel
theorem dL_law_918 : decode cL_law 918 = .ok (.iconst 1, 1) := by decide +kernel
theorem dL_law_919 : decode cL_law 919 = .ok (.iadd, 1) := by decide +kernel
theorem dL_law_920 : decode cL_law 920 = .ok (.iaload, 1) := by decide +kernel
theorem dL_law_921 : decode cL_law 921 = .ok (.invokevirtual 80, 3) := by decide +kernel
theorem dL_law_924 : decode cL_law 924 = .ok (.if_icmp .eq 306, 3) := by decide +kernel
theorem dL_law_927 : decode cL_law 927 = .ok (.iconst 0, 1) := by decide +kernel
theorem dL_law_928 : decode cL_law 928 = .ok (.ireturn, 1) := by decide +kernel
theorem dL_law_929 : decode cL_law 929 = .ok (.aload_n 1, 1) := by decide +kernel
theorem dL_law_930 : decode cL_law 930 = .ok (.aload_n 0, 1) := by decide +kernel
theorem dL_law_931 : decode cL_law 931 = .ok (.iload_n 3, 1) := by decide +kernel
theorem dL_law_932 : decode cL_law 932 = .ok (.iconst 1, 1) := by decide +kernel
theorem dL_law_933 : decode cL_law 933 = .ok (.iadd, 1) := by decide +kernel
theorem dL_law_934 : decode cL_law 934 = .ok (.iaload, 1) := by decide +kernel
theorem dL_law_935 : decode cL_law 935 = .ok (.aload_n 0, 1) := by decide +kernel
theorem dL_law_936 : decode cL_law 936 = .ok (.iload_n 3, 1) := by decide +kernel
theorem dL_law_937 : decode cL_law 937 = .ok (.iconst 2, 1) := by decide +kernel
theorem dL_law_938 : decode cL_law 938 = .ok (.iadd, 1) := by decide +kernel
theorem dL_law_939 : decode cL_law 939 = .ok (.iaload, 1) := by decide +kernel
theorem dL_law_940 : decode cL_law 940 = .ok (.aload_n 0, 1) := by decide +kernel
theorem dL_law_941 : decode cL_law 941 = .ok (.iload_n 3, 1) := by decide +kernel
theorem dL_law_942 : decode cL_law 942 = .ok (.iconst 3, 1) := by decide +kernel
theorem dL_law_943 : decode cL_law 943 = .ok (.iadd, 1) := by decide +kernel
end
section
theorem dL_law_944 : decode cL_law 944 = .ok (.iaload, 1) := by decide +kernel
theorem dL_law_945 : decode cL_law 945 = .ok (.invokevirtual 81, 3) := by decide +kernel
theorem dL_law_948 : decode cL_law 948 = .ok (.aload_n 2, 1) := by decide +kernel
theorem dL_law_949 : decode cL_law 949 = .ok (.aload_n 0, 1) := by decide +kernel
theorem dL_law_950 : decode cL_law 950 = .ok (.iload_n 3, 1) := by decide +kernel
theorem dL_law_951 : decode cL_law 951 = .ok (.iconst 1, 1) := by decide +kernel
theorem dL_law_952 : decode cL_law 952 = .ok (.iadd, 1) := by decide +kernel
theorem dL_law_953 : decode cL_law 953 = .ok (.iaload, 1) := by decide +kernel
theorem dL_law_954 : decode cL_law 954 = .ok (.aload_n 0, 1) := by decide +kernel
theorem dL_law_955 : decode cL_law 955 = .ok (.iload_n 3, 1) := by decide +kernel
theorem dL_law_956 : decode cL_law 956 = .ok (.iconst 2, 1) := by decide +kernel
theorem dL_law_957 : decode cL_law 957 = .ok (.iadd, 1) := by decide +kernel
theorem dL_law_958 : decode cL_law 958 = .ok (.iaload, 1) := by decide +kernel
theorem dL_law_959 : decode cL_law 959 = .ok (.aload_n 0, 1) := by decide +kernel
theorem dL_law_960 : decode cL_law 960 = .ok (.iload_n 3, 1) := by decide +kernel
theorem dL_law_961 : decode cL_law 961 = .ok (.iconst 3, 1) := by decide +kernel
theorem dL_law_962 : decode cL_law 962 = .ok (.iadd, 1) := by decide +kernel
theorem dL_law_963 : decode cL_law 963 = .ok (.iaload, 1) := by decide +kernel
theorem dL_law_964 : decode cL_law 964 = .ok (.invokevirtual 85, 3) := by decide +kernel
theorem dL_law_967 : decode cL_law 967 = .ok (.lcmp, 1) := by decide +kernel
theorem dL_law_968 : decode cL_law 968 = .ok (.ifCond .eq 262, 3) := by decide +kernel
theorem dL_law_971 : decode cL_law 971 = .ok (.iconst 0, 1) := by decide +kernel
theorem dL_law_972 : decode cL_law 972 = .ok (.ireturn, 1) := by decide +kernel
theorem dL_law_973 : decode cL_law 973 = .ok (.aload_n 1, 1) := by decide +kernel
theorem dL_law_974 : decode cL_law 974 = .ok (.aload_n 0, 1) := by decide +kernel
theorem dL_law_975 : decode cL_law 975 = .ok (.iload_n 3, 1) := by decide +kernel
theorem dL_law_976 : decode cL_law 976 = .ok (.iconst 1, 1) := by decide +kernel
theorem dL_law_977 : decode cL_law 977 = .ok (.iadd, 1) := by decide +kernel
theorem dL_law_978 : decode cL_law 978 = .ok (.iaload, 1) := by decide +kernel
theorem dL_law_979 : decode cL_law 979 = .ok (.aload_n 0, 1) := by decide +kernel
theorem dL_law_980 : decode cL_law 980 = .ok (.iload_n 3, 1) := by decide +kernel
theorem dL_law_981 : decode cL_law 981 = .ok (.iconst 2, 1) := by decide +kernel
theorem dL_law_982 : decode cL_law 982 = .ok (.iadd, 1) := by decide +kernel
theorem dL_law_983 : decode cL_law 983 = .ok (.iaload, 1) := by decide +kernel
theorem dL_law_984 : decode cL_law 984 = .ok (.invokevirtual 86, 3) := by decide +kernel
theorem dL_law_987 : decode cL_law 987 = .ok (.aload_n 2, 1) := by decide +kernel
theorem dL_law_988 : decode cL_law 988 = .ok (.aload_n 0, 1) := by decide +kernel
theorem dL_law_989 : decode cL_law 989 = .ok (.iload_n 3, 1) := by decide +kernel
theorem dL_law_990 : decode cL_law 990 = .ok (.iconst 1, 1) := by decide +kernel
theorem dL_law_991 : decode cL_law 991 = .ok (.iadd, 1) := by decide +kernel
theorem dL_law_992 : decode cL_law 992 = .ok (.iaload, 1) := by decide +kernel
theorem dL_law_993 : decode cL_law 993 = .ok (.aload_n 0, 1) := by decide +kernel
theorem dL_law_994 : decode cL_law 994 = .ok (.iload_n 3, 1) := by decide +kernel
theorem dL_law_995 : decode cL_law 995 = .ok (.iconst 2, 1) := by decide +kernel
theorem dL_law_996 : decode cL_law 996 = .ok (.iadd, 1) := by decide +kernel
theorem dL_law_997 : decode cL_law 997 = .ok (.iaload, 1) := by decide +kernel
theorem dL_law_998 : decode cL_law 998 = .ok (.invokevirtual 89, 3) := by decide +kernel
theorem dL_law_1001 : decode cL_law 1001 = .ok (.if_icmp .eq 229, 3) := by decide +kernel
theorem dL_law_1004 : decode cL_law 1004 = .ok (.iconst 0, 1) := by decide +kernel
theorem dL_law_1005 : decode cL_law 1005 = .ok (.ireturn, 1) := by decide +kernel
theorem dL_law_1006 : decode cL_law 1006 = .ok (.aload_n 1, 1) := by decide +kernel
theorem dL_law_1007 : decode cL_law 1007 = .ok (.aload_n 0, 1) := by decide +kernel
theorem dL_law_1008 : decode cL_law 1008 = .ok (.iload_n 3, 1) := by decide +kernel
theorem dL_law_1009 : decode cL_law 1009 = .ok (.iconst 1, 1) := by decide +kernel
theorem dL_law_1010 : decode cL_law 1010 = .ok (.iadd, 1) := by decide +kernel
theorem dL_law_1011 : decode cL_law 1011 = .ok (.iaload, 1) := by decide +kernel
theorem dL_law_1012 : decode cL_law 1012 = .ok (.aload_n 0, 1) := by decide +kernel
theorem dL_law_1013 : decode cL_law 1013 = .ok (.iload_n 3, 1) := by decide +kernel
theorem dL_law_1014 : decode cL_law 1014 = .ok (.iconst 2, 1) := by decide +kernel
theorem dL_law_1015 : decode cL_law 1015 = .ok (.iadd, 1) := by decide +kernel
theorem dL_law_1016 : decode cL_law 1016 = .ok (.iaload, 1) := by decide +kernel
theorem dL_law_1017 : decode cL_law 1017 = .ok (.invokevirtual 90, 3) := by decide +kernel
theorem dL_law_1020 : decode cL_law 1020 = .ok (.aload_n 2, 1) := by decide +kernel
theorem dL_law_1021 : decode cL_law 1021 = .ok (.aload_n 0, 1) := by decide +kernel
theorem dL_law_1022 : decode cL_law 1022 = .ok (.iload_n 3, 1) := by decide +kernel
theorem dL_law_1023 : decode cL_law 1023 = .ok (.iconst 1, 1) := by decide +kernel
theorem dL_law_1024 : decode cL_law 1024 = .ok (.iadd, 1) := by decide +kernel
theorem dL_law_1025 : decode cL_law 1025 = .ok (.iaload, 1) := by decide +kernel
theorem dL_law_1026 : decode cL_law 1026 = .ok (.aload_n 0, 1) := by decide +kernel
theorem dL_law_1027 : decode cL_law 1027 = .ok (.iload_n 3, 1) := by decide +kernel
theorem dL_law_1028 : decode cL_law 1028 = .ok (.iconst 2, 1) := by decide +kernel
theorem dL_law_1029 : decode cL_law 1029 = .ok (.iadd, 1) := by decide +kernel
theorem dL_law_1030 : decode cL_law 1030 = .ok (.iaload, 1) := by decide +kernel
theorem dL_law_1031 : decode cL_law 1031 = .ok (.invokevirtual 93, 3) := by decide +kernel
theorem dL_law_1034 : decode cL_law 1034 = .ok (.if_icmp .eq 196, 3) := by decide +kernel
theorem dL_law_1037 : decode cL_law 1037 = .ok (.iconst 0, 1) := by decide +kernel
theorem dL_law_1038 : decode cL_law 1038 = .ok (.ireturn, 1) := by decide +kernel
theorem dL_law_1039 : decode cL_law 1039 = .ok (.aload_n 1, 1) := by decide +kernel
theorem dL_law_1040 : decode cL_law 1040 = .ok (.aload_n 0, 1) := by decide +kernel
theorem dL_law_1041 : decode cL_law 1041 = .ok (.iload_n 3, 1) := by decide +kernel
theorem dL_law_1042 : decode cL_law 1042 = .ok (.iconst 1, 1) := by decide +kernel
theorem dL_law_1043 : decode cL_law 1043 = .ok (.iadd, 1) := by decide +kernel
theorem dL_law_1044 : decode cL_law 1044 = .ok (.iaload, 1) := by decide +kernel
theorem dL_law_1045 : decode cL_law 1045 = .ok (.aload_n 0, 1) := by decide +kernel
theorem dL_law_1046 : decode cL_law 1046 = .ok (.iload_n 3, 1) := by decide +kernel
theorem dL_law_1047 : decode cL_law 1047 = .ok (.iconst 2, 1) := by decide +kernel
theorem dL_law_1048 : decode cL_law 1048 = .ok (.iadd, 1) := by decide +kernel
theorem dL_law_1049 : decode cL_law 1049 = .ok (.iaload, 1) := by decide +kernel
theorem dL_law_1050 : decode cL_law 1050 = .ok (.invokevirtual 94, 3) := by decide +kernel
theorem dL_law_1053 : decode cL_law 1053 = .ok (.aload_n 2, 1) := by decide +kernel
theorem dL_law_1054 : decode cL_law 1054 = .ok (.aload_n 0, 1) := by decide +kernel
theorem dL_law_1055 : decode cL_law 1055 = .ok (.iload_n 3, 1) := by decide +kernel
theorem dL_law_1056 : decode cL_law 1056 = .ok (.iconst 1, 1) := by decide +kernel
theorem dL_law_1057 : decode cL_law 1057 = .ok (.iadd, 1) := by decide +kernel
theorem dL_law_1058 : decode cL_law 1058 = .ok (.iaload, 1) := by decide +kernel
theorem dL_law_1059 : decode cL_law 1059 = .ok (.aload_n 0, 1) := by decide +kernel
theorem dL_law_1060 : decode cL_law 1060 = .ok (.iload_n 3, 1) := by decide +kernel
theorem dL_law_1061 : decode cL_law 1061 = .ok (.iconst 2, 1) := by decide +kernel
theorem dL_law_1062 : decode cL_law 1062 = .ok (.iadd, 1) := by decide +kernel
theorem dL_law_1063 : decode cL_law 1063 = .ok (.iaload, 1) := by decide +kernel
theorem dL_law_1064 : decode cL_law 1064 = .ok (.invokevirtual 97, 3) := by decide +kernel
theorem dL_law_1067 : decode cL_law 1067 = .ok (.if_icmp .eq 163, 3) := by decide +kernel
theorem dL_law_1070 : decode cL_law 1070 = .ok (.iconst 0, 1) := by decide +kernel
theorem dL_law_1071 : decode cL_law 1071 = .ok (.ireturn, 1) := by decide +kernel
theorem dL_law_1072 : decode cL_law 1072 = .ok (.aload_n 1, 1) := by decide +kernel
theorem dL_law_1073 : decode cL_law 1073 = .ok (.aload_n 0, 1) := by decide +kernel
theorem dL_law_1074 : decode cL_law 1074 = .ok (.iload_n 3, 1) := by decide +kernel
theorem dL_law_1075 : decode cL_law 1075 = .ok (.iconst 1, 1) := by decide +kernel
theorem dL_law_1076 : decode cL_law 1076 = .ok (.iadd, 1) := by decide +kernel
theorem dL_law_1077 : decode cL_law 1077 = .ok (.iaload, 1) := by decide +kernel
theorem dL_law_1078 : decode cL_law 1078 = .ok (.aload_n 0, 1) := by decide +kernel
theorem dL_law_1079 : decode cL_law 1079 = .ok (.iload_n 3, 1) := by decide +kernel
theorem dL_law_1080 : decode cL_law 1080 = .ok (.iconst 2, 1) := by decide +kernel
theorem dL_law_1081 : decode cL_law 1081 = .ok (.iadd, 1) := by decide +kernel
theorem dL_law_1082 : decode cL_law 1082 = .ok (.iaload, 1) := by decide +kernel
theorem dL_law_1083 : decode cL_law 1083 = .ok (.aload_n 0, 1) := by decide +kernel
theorem dL_law_1084 : decode cL_law 1084 = .ok (.iload_n 3, 1) := by decide +kernel
theorem dL_law_1085 : decode cL_law 1085 = .ok (.iconst 3, 1) := by decide +kernel
theorem dL_law_1086 : decode cL_law 1086 = .ok (.iadd, 1) := by decide +kernel
theorem dL_law_1087 : decode cL_law 1087 = .ok (.iaload, 1) := by decide +kernel
theorem dL_law_1088 : decode cL_law 1088 = .ok (.invokevirtual 98, 3) := by decide +kernel
theorem dL_law_1091 : decode cL_law 1091 = .ok (.aload_n 2, 1) := by decide +kernel
theorem dL_law_1092 : decode cL_law 1092 = .ok (.aload_n 0, 1) := by decide +kernel
theorem dL_law_1093 : decode cL_law 1093 = .ok (.iload_n 3, 1) := by decide +kernel
theorem dL_law_1094 : decode cL_law 1094 = .ok (.iconst 1, 1) := by decide +kernel
theorem dL_law_1095 : decode cL_law 1095 = .ok (.iadd, 1) := by decide +kernel
theorem dL_law_1096 : decode cL_law 1096 = .ok (.iaload, 1) := by decide +kernel
theorem dL_law_1097 : decode cL_law 1097 = .ok (.aload_n 0, 1) := by decide +kernel
theorem dL_law_1098 : decode cL_law 1098 = .ok (.iload_n 3, 1) := by decide +kernel
theorem dL_law_1099 : decode cL_law 1099 = .ok (.iconst 2, 1) := by decide +kernel
theorem dL_law_1100 : decode cL_law 1100 = .ok (.iadd, 1) := by decide +kernel
theorem dL_law_1101 : decode cL_law 1101 = .ok (.iaload, 1) := by decide +kernel
theorem dL_law_1102 : decode cL_law 1102 = .ok (.aload_n 0, 1) := by decide +kernel
theorem dL_law_1103 : decode cL_law 1103 = .ok (.iload_n 3, 1) := by decide +kernel
theorem dL_law_1104 : decode cL_law 1104 = .ok (.iconst 3, 1) := by decide +kernel
theorem dL_law_1105 : decode cL_law 1105 = .ok (.iadd, 1) := by decide +kernel
theorem dL_law_1106 : decode cL_law 1106 = .ok (.iaload, 1) := by decide +kernel
theorem dL_law_1107 : decode cL_law 1107 = .ok (.invokevirtual 101, 3) := by decide +kernel
theorem dL_law_1110 : decode cL_law 1110 = .ok (.lcmp, 1) := by decide +kernel
theorem dL_law_1111 : decode cL_law 1111 = .ok (.ifCond .eq 119, 3) := by decide +kernel
theorem dL_law_1114 : decode cL_law 1114 = .ok (.iconst 0, 1) := by decide +kernel
theorem dL_law_1115 : decode cL_law 1115 = .ok (.ireturn, 1) := by decide +kernel
theorem dL_law_1116 : decode cL_law 1116 = .ok (.aload_n 1, 1) := by decide +kernel
theorem dL_law_1117 : decode cL_law 1117 = .ok (.aload_n 0, 1) := by decide +kernel
theorem dL_law_1118 : decode cL_law 1118 = .ok (.iload_n 3, 1) := by decide +kernel
theorem dL_law_1119 : decode cL_law 1119 = .ok (.iconst 1, 1) := by decide +kernel
theorem dL_law_1120 : decode cL_law 1120 = .ok (.iadd, 1) := by decide +kernel
theorem dL_law_1121 : decode cL_law 1121 = .ok (.iaload, 1) := by decide +kernel
theorem dL_law_1122 : decode cL_law 1122 = .ok (.aload_n 0, 1) := by decide +kernel
theorem dL_law_1123 : decode cL_law 1123 = .ok (.iload_n 3, 1) := by decide +kernel
theorem dL_law_1124 : decode cL_law 1124 = .ok (.iconst 2, 1) := by decide +kernel
theorem dL_law_1125 : decode cL_law 1125 = .ok (.iadd, 1) := by decide +kernel
theorem dL_law_1126 : decode cL_law 1126 = .ok (.iaload, 1) := by decide +kernel
theorem dL_law_1127 : decode cL_law 1127 = .ok (.invokevirtual 102, 3) := by decide +kernel
theorem dL_law_1130 : decode cL_law 1130 = .ok (.aload_n 2, 1) := by decide +kernel
theorem dL_law_1131 : decode cL_law 1131 = .ok (.aload_n 0, 1) := by decide +kernel
theorem dL_law_1132 : decode cL_law 1132 = .ok (.iload_n 3, 1) := by decide +kernel
theorem dL_law_1133 : decode cL_law 1133 = .ok (.iconst 1, 1) := by decide +kernel
theorem dL_law_1134 : decode cL_law 1134 = .ok (.iadd, 1) := by decide +kernel
theorem dL_law_1135 : decode cL_law 1135 = .ok (.iaload, 1) := by decide +kernel
theorem dL_law_1136 : decode cL_law 1136 = .ok (.aload_n 0, 1) := by decide +kernel
theorem dL_law_1137 : decode cL_law 1137 = .ok (.iload_n 3, 1) := by decide +kernel
theorem dL_law_1138 : decode cL_law 1138 = .ok (.iconst 2, 1) := by decide +kernel
theorem dL_law_1139 : decode cL_law 1139 = .ok (.iadd, 1) := by decide +kernel
theorem dL_law_1140 : decode cL_law 1140 = .ok (.iaload, 1) := by decide +kernel
theorem dL_law_1141 : decode cL_law 1141 = .ok (.invokevirtual 106, 3) := by decide +kernel
theorem dL_law_1144 : decode cL_law 1144 = .ok (.lcmp, 1) := by decide +kernel
theorem dL_law_1145 : decode cL_law 1145 = .ok (.ifCond .eq 85, 3) := by decide +kernel
theorem dL_law_1148 : decode cL_law 1148 = .ok (.iconst 0, 1) := by decide +kernel
theorem dL_law_1149 : decode cL_law 1149 = .ok (.ireturn, 1) := by decide +kernel
theorem dL_law_1150 : decode cL_law 1150 = .ok (.aload_n 1, 1) := by decide +kernel
theorem dL_law_1151 : decode cL_law 1151 = .ok (.aload_n 0, 1) := by decide +kernel
theorem dL_law_1152 : decode cL_law 1152 = .ok (.iload_n 3, 1) := by decide +kernel
theorem dL_law_1153 : decode cL_law 1153 = .ok (.iconst 1, 1) := by decide +kernel
theorem dL_law_1154 : decode cL_law 1154 = .ok (.iadd, 1) := by decide +kernel
theorem dL_law_1155 : decode cL_law 1155 = .ok (.iaload, 1) := by decide +kernel
theorem dL_law_1156 : decode cL_law 1156 = .ok (.aload_n 0, 1) := by decide +kernel
theorem dL_law_1157 : decode cL_law 1157 = .ok (.iload_n 3, 1) := by decide +kernel
theorem dL_law_1158 : decode cL_law 1158 = .ok (.iconst 2, 1) := by decide +kernel
theorem dL_law_1159 : decode cL_law 1159 = .ok (.iadd, 1) := by decide +kernel
theorem dL_law_1160 : decode cL_law 1160 = .ok (.iaload, 1) := by decide +kernel
theorem dL_law_1161 : decode cL_law 1161 = .ok (.invokevirtual 107, 3) := by decide +kernel
theorem dL_law_1164 : decode cL_law 1164 = .ok (.aload_n 2, 1) := by decide +kernel
theorem dL_law_1165 : decode cL_law 1165 = .ok (.aload_n 0, 1) := by decide +kernel
theorem dL_law_1166 : decode cL_law 1166 = .ok (.iload_n 3, 1) := by decide +kernel
theorem dL_law_1167 : decode cL_law 1167 = .ok (.iconst 1, 1) := by decide +kernel
theorem dL_law_1168 : decode cL_law 1168 = .ok (.iadd, 1) := by decide +kernel
theorem dL_law_1169 : decode cL_law 1169 = .ok (.iaload, 1) := by decide +kernel
theorem dL_law_1170 : decode cL_law 1170 = .ok (.aload_n 0, 1) := by decide +kernel
theorem dL_law_1171 : decode cL_law 1171 = .ok (.iload_n 3, 1) := by decide +kernel
theorem dL_law_1172 : decode cL_law 1172 = .ok (.iconst 2, 1) := by decide +kernel
theorem dL_law_1173 : decode cL_law 1173 = .ok (.iadd, 1) := by decide +kernel
theorem dL_law_1174 : decode cL_law 1174 = .ok (.iaload, 1) := by decide +kernel
theorem dL_law_1175 : decode cL_law 1175 = .ok (.invokevirtual 110, 3) := by decide +kernel
theorem dL_law_1178 : decode cL_law 1178 = .ok (.lcmp, 1) := by decide +kernel
theorem dL_law_1179 : decode cL_law 1179 = .ok (.ifCond .eq 51, 3) := by decide +kernel
theorem dL_law_1182 : decode cL_law 1182 = .ok (.iconst 0, 1) := by decide +kernel
theorem dL_law_1183 : decode cL_law 1183 = .ok (.ireturn, 1) := by decide +kernel
theorem dL_law_1184 : decode cL_law 1184 = .ok (.aload_n 1, 1) := by decide +kernel
theorem dL_law_1185 : decode cL_law 1185 = .ok (.aload_n 0, 1) := by decide +kernel
theorem dL_law_1186 : decode cL_law 1186 = .ok (.iload_n 3, 1) := by decide +kernel
theorem dL_law_1187 : decode cL_law 1187 = .ok (.iconst 1, 1) := by decide +kernel
theorem dL_law_1188 : decode cL_law 1188 = .ok (.iadd, 1) := by decide +kernel
theorem dL_law_1189 : decode cL_law 1189 = .ok (.iaload, 1) := by decide +kernel
theorem dL_law_1190 : decode cL_law 1190 = .ok (.invokevirtual 111, 3) := by decide +kernel
theorem dL_law_1193 : decode cL_law 1193 = .ok (.aload_n 2, 1) := by decide +kernel
theorem dL_law_1194 : decode cL_law 1194 = .ok (.aload_n 0, 1) := by decide +kernel
theorem dL_law_1195 : decode cL_law 1195 = .ok (.iload_n 3, 1) := by decide +kernel
theorem dL_law_1196 : decode cL_law 1196 = .ok (.iconst 1, 1) := by decide +kernel
theorem dL_law_1197 : decode cL_law 1197 = .ok (.iadd, 1) := by decide +kernel
theorem dL_law_1198 : decode cL_law 1198 = .ok (.iaload, 1) := by decide +kernel
theorem dL_law_1199 : decode cL_law 1199 = .ok (.invokevirtual 114, 3) := by decide +kernel
theorem dL_law_1202 : decode cL_law 1202 = .ok (.if_icmp .eq 28, 3) := by decide +kernel
theorem dL_law_1205 : decode cL_law 1205 = .ok (.iconst 0, 1) := by decide +kernel
theorem dL_law_1206 : decode cL_law 1206 = .ok (.ireturn, 1) := by decide +kernel
theorem dL_law_1207 : decode cL_law 1207 = .ok (.aload_n 1, 1) := by decide +kernel
theorem dL_law_1208 : decode cL_law 1208 = .ok (.aload_n 0, 1) := by decide +kernel
theorem dL_law_1209 : decode cL_law 1209 = .ok (.iload_n 3, 1) := by decide +kernel
theorem dL_law_1210 : decode cL_law 1210 = .ok (.iconst 1, 1) := by decide +kernel
theorem dL_law_1211 : decode cL_law 1211 = .ok (.iadd, 1) := by decide +kernel
theorem dL_law_1212 : decode cL_law 1212 = .ok (.iaload, 1) := by decide +kernel
theorem dL_law_1213 : decode cL_law 1213 = .ok (.invokevirtual 115, 3) := by decide +kernel
theorem dL_law_1216 : decode cL_law 1216 = .ok (.aload_n 2, 1) := by decide +kernel
theorem dL_law_1217 : decode cL_law 1217 = .ok (.aload_n 0, 1) := by decide +kernel
theorem dL_law_1218 : decode cL_law 1218 = .ok (.iload_n 3, 1) := by decide +kernel
theorem dL_law_1219 : decode cL_law 1219 = .ok (.iconst 1, 1) := by decide +kernel
theorem dL_law_1220 : decode cL_law 1220 = .ok (.iadd, 1) := by decide +kernel
theorem dL_law_1221 : decode cL_law 1221 = .ok (.iaload, 1) := by decide +kernel
theorem dL_law_1222 : decode cL_law 1222 = .ok (.invokevirtual 118, 3) := by decide +kernel
theorem dL_law_1225 : decode cL_law 1225 = .ok (.if_icmp .eq 5, 3) := by decide +kernel
theorem dL_law_1228 : decode cL_law 1228 = .ok (.iconst 0, 1) := by decide +kernel
theorem dL_law_1229 : decode cL_law 1229 = .ok (.ireturn, 1) := by decide +kernel
theorem dL_law_1230 : decode cL_law 1230 = .ok (.iinc 3 8, 3) := by decide +kernel
theorem dL_law_1233 : decode cL_law 1233 = .ok (.goto (-1215), 3) := by decide +kernel
theorem dL_law_1236 : decode cL_law 1236 = .ok (.iconst 1, 1) := by decide +kernel
theorem dL_law_1237 : decode cL_law 1237 = .ok (.ireturn, 1) := by decide +kernel
end
section
theorem dX0_init_0 : decode cX0_init 0 = .ok (.aload_n 0, 1) := by decide +kernel
theorem dX0_init_1 : decode cX0_init 1 = .ok (.invokespecial 3, 3) := by decide +kernel
theorem dX0_init_4 : decode cX0_init 4 = .ok (.aload_n 0, 1) := by decide +kernel
theorem dX0_init_5 : decode cX0_init 5 = .ok (.iconst 4, 1) := by decide +kernel
theorem dX0_init_6 : decode cX0_init 6 = .ok (.bipush 100, 2) := by decide +kernel
theorem dX0_init_8 : decode cX0_init 8 = .ok (.multianewarray 9 2, 4) := by decide +kernel
theorem dX0_init_12 : decode cX0_init 12 = .ok (.putfield 11, 3) := by decide +kernel
theorem dX0_init_15 : decode cX0_init 15 = .ok (.aload_n 0, 1) := by decide +kernel
theorem dX0_init_16 : decode cX0_init 16 = .ok (.iconst 4, 1) := by decide +kernel
theorem dX0_init_17 : decode cX0_init 17 = .ok (.newarray .int, 2) := by decide +kernel
theorem dX0_init_19 : decode cX0_init 19 = .ok (.putfield 16, 3) := by decide +kernel
theorem dX0_init_22 : decode cX0_init 22 = .ok (.aload_n 0, 1) := by decide +kernel
theorem dX0_init_23 : decode cX0_init 23 = .ok (.iconst 4, 1) := by decide +kernel
theorem dX0_init_24 : decode cX0_init 24 = .ok (.newarray .int, 2) := by decide +kernel
theorem dX0_init_26 : decode cX0_init 26 = .ok (.putfield 20, 3) := by decide +kernel
theorem dX0_init_29 : decode cX0_init 29 = .ok (.aload_n 0, 1) := by decide +kernel
theorem dX0_init_30 : decode cX0_init 30 = .ok (.iload_n 1, 1) := by decide +kernel
theorem dX0_init_31 : decode cX0_init 31 = .ok (.putfield 23, 3) := by decide +kernel
theorem dX0_init_34 : decode cX0_init 34 = .ok (.aload_n 0, 1) := by decide +kernel
theorem dX0_init_35 : decode cX0_init 35 = .ok (.aload_n 2, 1) := by decide +kernel
theorem dX0_init_36 : decode cX0_init 36 = .ok (.putfield 27, 3) := by decide +kernel
theorem dX0_init_39 : decode cX0_init 39 = .ok (.aload_n 0, 1) := by decide +kernel
theorem dX0_init_40 : decode cX0_init 40 = .ok (.aload_n 3, 1) := by decide +kernel
theorem dX0_init_41 : decode cX0_init 41 = .ok (.putfield 31, 3) := by decide +kernel
theorem dX0_init_44 : decode cX0_init 44 = .ok (.iconst 0, 1) := by decide +kernel
theorem dX0_init_45 : decode cX0_init 45 = .ok (.istore 4, 2) := by decide +kernel
theorem dX0_init_47 : decode cX0_init 47 = .ok (.iload 4, 2) := by decide +kernel
theorem dX0_init_49 : decode cX0_init 49 = .ok (.iconst 4, 1) := by decide +kernel
theorem dX0_init_50 : decode cX0_init 50 = .ok (.if_icmp .ge 17, 3) := by decide +kernel
theorem dX0_init_53 : decode cX0_init 53 = .ok (.aload_n 0, 1) := by decide +kernel
theorem dX0_init_54 : decode cX0_init 54 = .ok (.getfield 20, 3) := by decide +kernel
theorem dX0_init_57 : decode cX0_init 57 = .ok (.iload 4, 2) := by decide +kernel
theorem dX0_init_59 : decode cX0_init 59 = .ok (.iconst (-1), 1) := by decide +kernel
theorem dX0_init_60 : decode cX0_init 60 = .ok (.iastore, 1) := by decide +kernel
theorem dX0_init_61 : decode cX0_init 61 = .ok (.iinc 4 1, 3) := by decide +kernel
theorem dX0_init_64 : decode cX0_init 64 = .ok (.goto (-17), 3) := by decide +kernel
theorem dX0_init_67 : decode cX0_init 67 = .ok (.return_, 1) := by decide +kernel
theorem dX0_addUsed_0 : decode cX0_addUsed 0 = .ok (.aload_n 0, 1) := by decide +kernel
theorem dX0_addUsed_1 : decode cX0_addUsed 1 = .ok (.astore 4, 2) := by decide +kernel
theorem dX0_addUsed_3 : decode cX0_addUsed 3 = .ok (.aload 4, 2) := by decide +kernel
theorem dX0_addUsed_5 : decode cX0_addUsed 5 = .ok (.ifnull 27, 3) := by decide +kernel
theorem dX0_addUsed_8 : decode cX0_addUsed 8 = .ok (.aload 4, 2) := by decide +kernel
theorem dX0_addUsed_10 : decode cX0_addUsed 10 = .ok (.getfield 11, 3) := by decide +kernel
theorem dX0_addUsed_13 : decode cX0_addUsed 13 = .ok (.iload_n 1, 1) := by decide +kernel
theorem dX0_addUsed_14 : decode cX0_addUsed 14 = .ok (.aaload, 1) := by decide +kernel
theorem dX0_addUsed_15 : decode cX0_addUsed 15 = .ok (.iload_n 2, 1) := by decide +kernel
theorem dX0_addUsed_16 : decode cX0_addUsed 16 = .ok (.dup2, 1) := by decide +kernel
theorem dX0_addUsed_17 : decode cX0_addUsed 17 = .ok (.laload, 1) := by decide +kernel
theorem dX0_addUsed_18 : decode cX0_addUsed 18 = .ok (.iload_n 3, 1) := by decide +kernel
theorem dX0_addUsed_19 : decode cX0_addUsed 19 = .ok (.i2l, 1) := by decide +kernel
theorem dX0_addUsed_20 : decode cX0_addUsed 20 = .ok (.ladd, 1) := by decide +kernel
theorem dX0_addUsed_21 : decode cX0_addUsed 21 = .ok (.lastore, 1) := by decide +kernel
theorem dX0_addUsed_22 : decode cX0_addUsed 22 = .ok (.aload 4, 2) := by decide +kernel
theorem dX0_addUsed_24 : decode cX0_addUsed 24 = .ok (.getfield 31, 3) := by decide +kernel
theorem dX0_addUsed_27 : decode cX0_addUsed 27 = .ok (.astore 4, 2) := by decide +kernel
theorem dX0_addUsed_29 : decode cX0_addUsed 29 = .ok (.goto (-26), 3) := by decide +kernel
theorem dX0_addUsed_32 : decode cX0_addUsed 32 = .ok (.return_, 1) := by decide +kernel
theorem dX0_addHeld_0 : decode cX0_addHeld 0 = .ok (.aload_n 0, 1) := by decide +kernel
theorem dX0_addHeld_1 : decode cX0_addHeld 1 = .ok (.astore_n 3, 1) := by decide +kernel
theorem dX0_addHeld_2 : decode cX0_addHeld 2 = .ok (.aload_n 3, 1) := by decide +kernel
theorem dX0_addHeld_3 : decode cX0_addHeld 3 = .ok (.ifnull 21, 3) := by decide +kernel
theorem dX0_addHeld_6 : decode cX0_addHeld 6 = .ok (.aload_n 3, 1) := by decide +kernel
theorem dX0_addHeld_7 : decode cX0_addHeld 7 = .ok (.getfield 16, 3) := by decide +kernel
theorem dX0_addHeld_10 : decode cX0_addHeld 10 = .ok (.iload_n 1, 1) := by decide +kernel
theorem dX0_addHeld_11 : decode cX0_addHeld 11 = .ok (.dup2, 1) := by decide +kernel
theorem dX0_addHeld_12 : decode cX0_addHeld 12 = .ok (.iaload, 1) := by decide +kernel
theorem dX0_addHeld_13 : decode cX0_addHeld 13 = .ok (.iload_n 2, 1) := by decide +kernel
theorem dX0_addHeld_14 : decode cX0_addHeld 14 = .ok (.iadd, 1) := by decide +kernel
theorem dX0_addHeld_15 : decode cX0_addHeld 15 = .ok (.iastore, 1) := by decide +kernel
theorem dX0_addHeld_16 : decode cX0_addHeld 16 = .ok (.aload_n 3, 1) := by decide +kernel
theorem dX0_addHeld_17 : decode cX0_addHeld 17 = .ok (.getfield 31, 3) := by decide +kernel
theorem dX0_addHeld_20 : decode cX0_addHeld 20 = .ok (.astore_n 3, 1) := by decide +kernel
theorem dX0_addHeld_21 : decode cX0_addHeld 21 = .ok (.goto (-19), 3) := by decide +kernel
theorem dX0_addHeld_24 : decode cX0_addHeld 24 = .ok (.return_, 1) := by decide +kernel
theorem dX0_freeUnits_0 : decode cX0_freeUnits 0 = .ok (.ldc2_w 35, 3) := by decide +kernel
theorem dX0_freeUnits_3 : decode cX0_freeUnits 3 = .ok (.lstore_n 3, 1) := by decide +kernel
theorem dX0_freeUnits_4 : decode cX0_freeUnits 4 = .ok (.aload_n 0, 1) := by decide +kernel
theorem dX0_freeUnits_5 : decode cX0_freeUnits 5 = .ok (.astore 5, 2) := by decide +kernel
theorem dX0_freeUnits_7 : decode cX0_freeUnits 7 = .ok (.aload 5, 2) := by decide +kernel
theorem dX0_freeUnits_9 : decode cX0_freeUnits 9 = .ok (.ifnull 56, 3) := by decide +kernel
theorem dX0_freeUnits_12 : decode cX0_freeUnits 12 = .ok (.aload 5, 2) := by decide +kernel
theorem dX0_freeUnits_14 : decode cX0_freeUnits 14 = .ok (.getfield 20, 3) := by decide +kernel
theorem dX0_freeUnits_17 : decode cX0_freeUnits 17 = .ok (.iload_n 1, 1) := by decide +kernel
theorem dX0_freeUnits_18 : decode cX0_freeUnits 18 = .ok (.iaload, 1) := by decide +kernel
theorem dX0_freeUnits_19 : decode cX0_freeUnits 19 = .ok (.iconst (-1), 1) := by decide +kernel
theorem dX0_freeUnits_20 : decode cX0_freeUnits 20 = .ok (.if_icmp .eq 35, 3) := by decide +kernel
theorem dX0_freeUnits_23 : decode cX0_freeUnits 23 = .ok (.lload_n 3, 1) := by decide +kernel
theorem dX0_freeUnits_24 : decode cX0_freeUnits 24 = .ok (.aload 5, 2) := by decide +kernel
theorem dX0_freeUnits_26 : decode cX0_freeUnits 26 = .ok (.getfield 20, 3) := by decide +kernel
theorem dX0_freeUnits_29 : decode cX0_freeUnits 29 = .ok (.iload_n 1, 1) := by decide +kernel
theorem dX0_freeUnits_30 : decode cX0_freeUnits 30 = .ok (.iaload, 1) := by decide +kernel
theorem dX0_freeUnits_31 : decode cX0_freeUnits 31 = .ok (.i2l, 1) := by decide +kernel
theorem dX0_freeUnits_32 : decode cX0_freeUnits 32 = .ok (.aload 5, 2) := by decide +kernel
theorem dX0_freeUnits_34 : decode cX0_freeUnits 34 = .ok (.getfield 11, 3) := by decide +kernel
theorem dX0_freeUnits_37 : decode cX0_freeUnits 37 = .ok (.iload_n 1, 1) := by decide +kernel
theorem dX0_freeUnits_38 : decode cX0_freeUnits 38 = .ok (.aaload, 1) := by decide +kernel
theorem dX0_freeUnits_39 : decode cX0_freeUnits 39 = .ok (.iload_n 2, 1) := by decide +kernel
theorem dX0_freeUnits_40 : decode cX0_freeUnits 40 = .ok (.laload, 1) := by decide +kernel
theorem dX0_freeUnits_41 : decode cX0_freeUnits 41 = .ok (.lsub, 1) := by decide +kernel
theorem dX0_freeUnits_42 : decode cX0_freeUnits 42 = .ok (.aload 5, 2) := by decide +kernel
theorem dX0_freeUnits_44 : decode cX0_freeUnits 44 = .ok (.getfield 16, 3) := by decide +kernel
theorem dX0_freeUnits_47 : decode cX0_freeUnits 47 = .ok (.iload_n 1, 1) := by decide +kernel
theorem dX0_freeUnits_48 : decode cX0_freeUnits 48 = .ok (.iaload, 1) := by decide +kernel
theorem dX0_freeUnits_49 : decode cX0_freeUnits 49 = .ok (.i2l, 1) := by decide +kernel
theorem dX0_freeUnits_50 : decode cX0_freeUnits 50 = .ok (.lsub, 1) := by decide +kernel
theorem dX0_freeUnits_51 : decode cX0_freeUnits 51 = .ok (.invokestatic 37, 3) := by decide +kernel
theorem dX0_freeUnits_54 : decode cX0_freeUnits 54 = .ok (.lstore_n 3, 1) := by decide +kernel
theorem dX0_freeUnits_55 : decode cX0_freeUnits 55 = .ok (.aload 5, 2) := by decide +kernel
theorem dX0_freeUnits_57 : decode cX0_freeUnits 57 = .ok (.getfield 31, 3) := by decide +kernel
theorem dX0_freeUnits_60 : decode cX0_freeUnits 60 = .ok (.astore 5, 2) := by decide +kernel
theorem dX0_freeUnits_62 : decode cX0_freeUnits 62 = .ok (.goto (-55), 3) := by decide +kernel
theorem dX0_freeUnits_65 : decode cX0_freeUnits 65 = .ok (.lload_n 3, 1) := by decide +kernel
theorem dX0_freeUnits_66 : decode cX0_freeUnits 66 = .ok (.lconst 0, 1) := by decide +kernel
theorem dX0_freeUnits_67 : decode cX0_freeUnits 67 = .ok (.invokestatic 43, 3) := by decide +kernel
theorem dX0_freeUnits_70 : decode cX0_freeUnits 70 = .ok (.l2i, 1) := by decide +kernel
theorem dX0_freeUnits_71 : decode cX0_freeUnits 71 = .ok (.ireturn, 1) := by decide +kernel
theorem dX1_init_0 : decode cX1_init 0 = .ok (.aload_n 0, 1) := by decide +kernel
theorem dX1_init_1 : decode cX1_init 1 = .ok (.invokespecial 3, 3) := by decide +kernel
theorem dX1_init_4 : decode cX1_init 4 = .ok (.aload_n 0, 1) := by decide +kernel
theorem dX1_init_5 : decode cX1_init 5 = .ok (.bipush 40, 2) := by decide +kernel
theorem dX1_init_7 : decode cX1_init 7 = .ok (.newarray .long, 2) := by decide +kernel
theorem dX1_init_9 : decode cX1_init 9 = .ok (.putfield 9, 3) := by decide +kernel
theorem dX1_init_12 : decode cX1_init 12 = .ok (.aload_n 0, 1) := by decide +kernel
theorem dX1_init_13 : decode cX1_init 13 = .ok (.bipush 40, 2) := by decide +kernel
theorem dX1_init_15 : decode cX1_init 15 = .ok (.newarray .int, 2) := by decide +kernel
theorem dX1_init_17 : decode cX1_init 17 = .ok (.putfield 15, 3) := by decide +kernel
theorem dX1_init_20 : decode cX1_init 20 = .ok (.return_, 1) := by decide +kernel
theorem dX1_give_0 : decode cX1_give 0 = .ok (.aload_n 0, 1) := by decide +kernel
theorem dX1_give_1 : decode cX1_give 1 = .ok (.getfield 19, 3) := by decide +kernel
theorem dX1_give_4 : decode cX1_give 4 = .ok (.bipush 40, 2) := by decide +kernel
theorem dX1_give_6 : decode cX1_give 6 = .ok (.if_icmp .ge 12, 3) := by decide +kernel
theorem dX1_give_9 : decode cX1_give 9 = .ok (.aload_n 0, 1) := by decide +kernel
theorem dX1_give_10 : decode cX1_give 10 = .ok (.invokevirtual 23, 3) := by decide +kernel
theorem dX1_give_13 : decode cX1_give 13 = .ok (.bipush 10, 2) := by decide +kernel
theorem dX1_give_15 : decode cX1_give 15 = .ok (.if_icmp .lt 6, 3) := by decide +kernel
theorem dX1_give_18 : decode cX1_give 18 = .ok (.bipush (-3), 2) := by decide +kernel
theorem dX1_give_20 : decode cX1_give 20 = .ok (.ireturn, 1) := by decide +kernel
theorem dX1_give_21 : decode cX1_give 21 = .ok (.aload_n 0, 1) := by decide +kernel
theorem dX1_give_22 : decode cX1_give 22 = .ok (.getfield 9, 3) := by decide +kernel
theorem dX1_give_25 : decode cX1_give 25 = .ok (.aload_n 0, 1) := by decide +kernel
theorem dX1_give_26 : decode cX1_give 26 = .ok (.getfield 19, 3) := by decide +kernel
theorem dX1_give_29 : decode cX1_give 29 = .ok (.lload_n 1, 1) := by decide +kernel
theorem dX1_give_30 : decode cX1_give 30 = .ok (.lastore, 1) := by decide +kernel
theorem dX1_give_31 : decode cX1_give 31 = .ok (.aload_n 0, 1) := by decide +kernel
theorem dX1_give_32 : decode cX1_give 32 = .ok (.getfield 15, 3) := by decide +kernel
theorem dX1_give_35 : decode cX1_give 35 = .ok (.aload_n 0, 1) := by decide +kernel
theorem dX1_give_36 : decode cX1_give 36 = .ok (.getfield 19, 3) := by decide +kernel
theorem dX1_give_39 : decode cX1_give 39 = .ok (.iload_n 3, 1) := by decide +kernel
theorem dX1_give_40 : decode cX1_give 40 = .ok (.iastore, 1) := by decide +kernel
theorem dX1_give_41 : decode cX1_give 41 = .ok (.aload_n 0, 1) := by decide +kernel
theorem dX1_give_42 : decode cX1_give 42 = .ok (.dup, 1) := by decide +kernel
theorem dX1_give_43 : decode cX1_give 43 = .ok (.getfield 19, 3) := by decide +kernel
theorem dX1_give_46 : decode cX1_give 46 = .ok (.iconst 1, 1) := by decide +kernel
theorem dX1_give_47 : decode cX1_give 47 = .ok (.iadd, 1) := by decide +kernel
theorem dX1_give_48 : decode cX1_give 48 = .ok (.putfield 19, 3) := by decide +kernel
theorem dX1_give_51 : decode cX1_give 51 = .ok (.aload_n 0, 1) := by decide +kernel
theorem dX1_give_52 : decode cX1_give 52 = .ok (.getfield 19, 3) := by decide +kernel
theorem dX1_give_55 : decode cX1_give 55 = .ok (.iconst 1, 1) := by decide +kernel
theorem dX1_give_56 : decode cX1_give 56 = .ok (.isub, 1) := by decide +kernel
theorem dX1_give_57 : decode cX1_give 57 = .ok (.ireturn, 1) := by decide +kernel
theorem dX1_countLasting_0 : decode cX1_countLasting 0 = .ok (.iconst 0, 1) := by decide +kernel
theorem dX1_countLasting_1 : decode cX1_countLasting 1 = .ok (.istore_n 1, 1) := by decide +kernel
theorem dX1_countLasting_2 : decode cX1_countLasting 2 = .ok (.iconst 0, 1) := by decide +kernel
theorem dX1_countLasting_3 : decode cX1_countLasting 3 = .ok (.istore_n 2, 1) := by decide +kernel
theorem dX1_countLasting_4 : decode cX1_countLasting 4 = .ok (.iload_n 2, 1) := by decide +kernel
theorem dX1_countLasting_5 : decode cX1_countLasting 5 = .ok (.aload_n 0, 1) := by decide +kernel
theorem dX1_countLasting_6 : decode cX1_countLasting 6 = .ok (.getfield 19, 3) := by decide +kernel
theorem dX1_countLasting_9 : decode cX1_countLasting 9 = .ok (.if_icmp .ge 23, 3) := by decide +kernel
theorem dX1_countLasting_12 : decode cX1_countLasting 12 = .ok (.aload_n 0, 1) := by decide +kernel
theorem dX1_countLasting_13 : decode cX1_countLasting 13 = .ok (.getfield 9, 3) := by decide +kernel
theorem dX1_countLasting_16 : decode cX1_countLasting 16 = .ok (.iload_n 2, 1) := by decide +kernel
theorem dX1_countLasting_17 : decode cX1_countLasting 17 = .ok (.laload, 1) := by decide +kernel
theorem dX1_countLasting_18 : decode cX1_countLasting 18 = .ok (.lconst 0, 1) := by decide +kernel
theorem dX1_countLasting_19 : decode cX1_countLasting 19 = .ok (.lcmp, 1) := by decide +kernel
theorem dX1_countLasting_20 : decode cX1_countLasting 20 = .ok (.ifCond .le 6, 3) := by decide +kernel
theorem dX1_countLasting_23 : decode cX1_countLasting 23 = .ok (.iinc 1 1, 3) := by decide +kernel
theorem dX1_countLasting_26 : decode cX1_countLasting 26 = .ok (.iinc 2 1, 3) := by decide +kernel
theorem dX1_countLasting_29 : decode cX1_countLasting 29 = .ok (.goto (-25), 3) := by decide +kernel
theorem dX1_countLasting_32 : decode cX1_countLasting 32 = .ok (.iload_n 1, 1) := by decide +kernel
theorem dX1_countLasting_33 : decode cX1_countLasting 33 = .ok (.ireturn, 1) := by decide +kernel
theorem dX1_payFor_0 : decode cX1_payFor 0 = .ok (.iconst 0, 1) := by decide +kernel
theorem dX1_payFor_1 : decode cX1_payFor 1 = .ok (.istore_n 2, 1) := by decide +kernel
theorem dX1_payFor_2 : decode cX1_payFor 2 = .ok (.iload_n 2, 1) := by decide +kernel
theorem dX1_payFor_3 : decode cX1_payFor 3 = .ok (.bipush 10, 2) := by decide +kernel
theorem dX1_payFor_5 : decode cX1_payFor 5 = .ok (.if_icmp .ge 63, 3) := by decide +kernel
theorem dX1_payFor_8 : decode cX1_payFor 8 = .ok (.aload_n 1, 1) := by decide +kernel
theorem dX1_payFor_9 : decode cX1_payFor 9 = .ok (.getfield 27, 3) := by decide +kernel
theorem dX1_payFor_12 : decode cX1_payFor 12 = .ok (.lconst 0, 1) := by decide +kernel
theorem dX1_payFor_13 : decode cX1_payFor 13 = .ok (.lcmp, 1) := by decide +kernel
theorem dX1_payFor_14 : decode cX1_payFor 14 = .ok (.ifCond .le 54, 3) := by decide +kernel
theorem dX1_payFor_17 : decode cX1_payFor 17 = .ok (.aload_n 0, 1) := by decide +kernel
theorem dX1_payFor_18 : decode cX1_payFor 18 = .ok (.invokevirtual 33, 3) := by decide +kernel
theorem dX1_payFor_21 : decode cX1_payFor 21 = .ok (.istore_n 3, 1) := by decide +kernel
theorem dX1_payFor_22 : decode cX1_payFor 22 = .ok (.iload_n 3, 1) := by decide +kernel
theorem dX1_payFor_23 : decode cX1_payFor 23 = .ok (.iconst (-1), 1) := by decide +kernel
theorem dX1_payFor_24 : decode cX1_payFor 24 = .ok (.if_icmp .ne 4, 3) := by decide +kernel
theorem dX1_payFor_27 : decode cX1_payFor 27 = .ok (.return_, 1) := by decide +kernel
theorem dX1_payFor_28 : decode cX1_payFor 28 = .ok (.aload_n 0, 1) := by decide +kernel
theorem dX1_payFor_29 : decode cX1_payFor 29 = .ok (.getfield 9, 3) := by decide +kernel
theorem dX1_payFor_32 : decode cX1_payFor 32 = .ok (.iload_n 3, 1) := by decide +kernel
theorem dX1_payFor_33 : decode cX1_payFor 33 = .ok (.laload, 1) := by decide +kernel
theorem dX1_payFor_34 : decode cX1_payFor 34 = .ok (.aload_n 1, 1) := by decide +kernel
theorem dX1_payFor_35 : decode cX1_payFor 35 = .ok (.getfield 27, 3) := by decide +kernel
theorem dX1_payFor_38 : decode cX1_payFor 38 = .ok (.invokestatic 36, 3) := by decide +kernel
theorem dX1_payFor_41 : decode cX1_payFor 41 = .ok (.lstore 4, 2) := by decide +kernel
theorem dX1_payFor_43 : decode cX1_payFor 43 = .ok (.aload_n 0, 1) := by decide +kernel
theorem dX1_payFor_44 : decode cX1_payFor 44 = .ok (.getfield 9, 3) := by decide +kernel
theorem dX1_payFor_47 : decode cX1_payFor 47 = .ok (.iload_n 3, 1) := by decide +kernel
theorem dX1_payFor_48 : decode cX1_payFor 48 = .ok (.dup2, 1) := by decide +kernel
theorem dX1_payFor_49 : decode cX1_payFor 49 = .ok (.laload, 1) := by decide +kernel
theorem dX1_payFor_50 : decode cX1_payFor 50 = .ok (.lload 4, 2) := by decide +kernel
theorem dX1_payFor_52 : decode cX1_payFor 52 = .ok (.lsub, 1) := by decide +kernel
theorem dX1_payFor_53 : decode cX1_payFor 53 = .ok (.lastore, 1) := by decide +kernel
theorem dX1_payFor_54 : decode cX1_payFor 54 = .ok (.aload_n 1, 1) := by decide +kernel
theorem dX1_payFor_55 : decode cX1_payFor 55 = .ok (.iconst 5, 1) := by decide +kernel
theorem dX1_payFor_56 : decode cX1_payFor 56 = .ok (.lload 4, 2) := by decide +kernel
theorem dX1_payFor_58 : decode cX1_payFor 58 = .ok (.lneg, 1) := by decide +kernel
theorem dX1_payFor_59 : decode cX1_payFor 59 = .ok (.invokevirtual 42, 3) := by decide +kernel
theorem dX1_payFor_62 : decode cX1_payFor 62 = .ok (.iinc 2 1, 3) := by decide +kernel
theorem dX1_payFor_65 : decode cX1_payFor 65 = .ok (.goto (-63), 3) := by decide +kernel
theorem dX1_payFor_68 : decode cX1_payFor 68 = .ok (.return_, 1) := by decide +kernel
theorem dX1_nextToUse_0 : decode cX1_nextToUse 0 = .ok (.iconst (-1), 1) := by decide +kernel
theorem dX1_nextToUse_1 : decode cX1_nextToUse 1 = .ok (.istore_n 1, 1) := by decide +kernel
theorem dX1_nextToUse_2 : decode cX1_nextToUse 2 = .ok (.iconst 0, 1) := by decide +kernel
theorem dX1_nextToUse_3 : decode cX1_nextToUse 3 = .ok (.istore_n 2, 1) := by decide +kernel
theorem dX1_nextToUse_4 : decode cX1_nextToUse 4 = .ok (.iload_n 2, 1) := by decide +kernel
theorem dX1_nextToUse_5 : decode cX1_nextToUse 5 = .ok (.aload_n 0, 1) := by decide +kernel
theorem dX1_nextToUse_6 : decode cX1_nextToUse 6 = .ok (.getfield 19, 3) := by decide +kernel
theorem dX1_nextToUse_9 : decode cX1_nextToUse 9 = .ok (.if_icmp .ge 42, 3) := by decide +kernel
theorem dX1_nextToUse_12 : decode cX1_nextToUse 12 = .ok (.aload_n 0, 1) := by decide +kernel
theorem dX1_nextToUse_13 : decode cX1_nextToUse 13 = .ok (.getfield 9, 3) := by decide +kernel
theorem dX1_nextToUse_16 : decode cX1_nextToUse 16 = .ok (.iload_n 2, 1) := by decide +kernel
theorem dX1_nextToUse_17 : decode cX1_nextToUse 17 = .ok (.laload, 1) := by decide +kernel
theorem dX1_nextToUse_18 : decode cX1_nextToUse 18 = .ok (.lconst 0, 1) := by decide +kernel
theorem dX1_nextToUse_19 : decode cX1_nextToUse 19 = .ok (.lcmp, 1) := by decide +kernel
theorem dX1_nextToUse_20 : decode cX1_nextToUse 20 = .ok (.ifCond .le 25, 3) := by decide +kernel
theorem dX1_nextToUse_23 : decode cX1_nextToUse 23 = .ok (.iload_n 1, 1) := by decide +kernel
theorem dX1_nextToUse_24 : decode cX1_nextToUse 24 = .ok (.iconst (-1), 1) := by decide +kernel
theorem dX1_nextToUse_25 : decode cX1_nextToUse 25 = .ok (.if_icmp .eq 18, 3) := by decide +kernel
theorem dX1_nextToUse_28 : decode cX1_nextToUse 28 = .ok (.aload_n 0, 1) := by decide +kernel
theorem dX1_nextToUse_29 : decode cX1_nextToUse 29 = .ok (.getfield 15, 3) := by decide +kernel
theorem dX1_nextToUse_32 : decode cX1_nextToUse 32 = .ok (.iload_n 2, 1) := by decide +kernel
theorem dX1_nextToUse_33 : decode cX1_nextToUse 33 = .ok (.iaload, 1) := by decide +kernel
theorem dX1_nextToUse_34 : decode cX1_nextToUse 34 = .ok (.aload_n 0, 1) := by decide +kernel
theorem dX1_nextToUse_35 : decode cX1_nextToUse 35 = .ok (.getfield 15, 3) := by decide +kernel
theorem dX1_nextToUse_38 : decode cX1_nextToUse 38 = .ok (.iload_n 1, 1) := by decide +kernel
theorem dX1_nextToUse_39 : decode cX1_nextToUse 39 = .ok (.iaload, 1) := by decide +kernel
theorem dX1_nextToUse_40 : decode cX1_nextToUse 40 = .ok (.if_icmp .ge 5, 3) := by decide +kernel
theorem dX1_nextToUse_43 : decode cX1_nextToUse 43 = .ok (.iload_n 2, 1) := by decide +kernel
theorem dX1_nextToUse_44 : decode cX1_nextToUse 44 = .ok (.istore_n 1, 1) := by decide +kernel
theorem dX1_nextToUse_45 : decode cX1_nextToUse 45 = .ok (.iinc 2 1, 3) := by decide +kernel
theorem dX1_nextToUse_48 : decode cX1_nextToUse 48 = .ok (.goto (-44), 3) := by decide +kernel
theorem dX1_nextToUse_51 : decode cX1_nextToUse 51 = .ok (.iload_n 1, 1) := by decide +kernel
theorem dX1_nextToUse_52 : decode cX1_nextToUse 52 = .ok (.ireturn, 1) := by decide +kernel
theorem dX1_endIn_0 : decode cX1_endIn 0 = .ok (.iconst 0, 1) := by decide +kernel
theorem dX1_endIn_1 : decode cX1_endIn 1 = .ok (.istore_n 2, 1) := by decide +kernel
theorem dX1_endIn_2 : decode cX1_endIn 2 = .ok (.iload_n 2, 1) := by decide +kernel
theorem dX1_endIn_3 : decode cX1_endIn 3 = .ok (.aload_n 0, 1) := by decide +kernel
theorem dX1_endIn_4 : decode cX1_endIn 4 = .ok (.getfield 19, 3) := by decide +kernel
theorem dX1_endIn_7 : decode cX1_endIn 7 = .ok (.if_icmp .ge 26, 3) := by decide +kernel
theorem dX1_endIn_10 : decode cX1_endIn 10 = .ok (.aload_n 0, 1) := by decide +kernel
theorem dX1_endIn_11 : decode cX1_endIn 11 = .ok (.getfield 15, 3) := by decide +kernel
theorem dX1_endIn_14 : decode cX1_endIn 14 = .ok (.iload_n 2, 1) := by decide +kernel
theorem dX1_endIn_15 : decode cX1_endIn 15 = .ok (.iaload, 1) := by decide +kernel
theorem dX1_endIn_16 : decode cX1_endIn 16 = .ok (.iload_n 1, 1) := by decide +kernel
theorem dX1_endIn_17 : decode cX1_endIn 17 = .ok (.if_icmp .gt 10, 3) := by decide +kernel
theorem dX1_endIn_20 : decode cX1_endIn 20 = .ok (.aload_n 0, 1) := by decide +kernel
theorem dX1_endIn_21 : decode cX1_endIn 21 = .ok (.getfield 9, 3) := by decide +kernel
theorem dX1_endIn_24 : decode cX1_endIn 24 = .ok (.iload_n 2, 1) := by decide +kernel
theorem dX1_endIn_25 : decode cX1_endIn 25 = .ok (.lconst 0, 1) := by decide +kernel
theorem dX1_endIn_26 : decode cX1_endIn 26 = .ok (.lastore, 1) := by decide +kernel
theorem dX1_endIn_27 : decode cX1_endIn 27 = .ok (.iinc 2 1, 3) := by decide +kernel
theorem dX1_endIn_30 : decode cX1_endIn 30 = .ok (.goto (-28), 3) := by decide +kernel
theorem dX1_endIn_33 : decode cX1_endIn 33 = .ok (.return_, 1) := by decide +kernel
theorem dX2_init_0 : decode cX2_init 0 = .ok (.aload_n 0, 1) := by decide +kernel
theorem dX2_init_1 : decode cX2_init 1 = .ok (.invokespecial 1, 3) := by decide +kernel
theorem dX2_init_4 : decode cX2_init 4 = .ok (.aload_n 0, 1) := by decide +kernel
theorem dX2_init_5 : decode cX2_init 5 = .ok (.iconst 1, 1) := by decide +kernel
theorem dX2_init_6 : decode cX2_init 6 = .ok (.putfield 7, 3) := by decide +kernel
theorem dX2_init_9 : decode cX2_init 9 = .ok (.aload_n 0, 1) := by decide +kernel
theorem dX2_init_10 : decode cX2_init 10 = .ok (.aload_n 1, 1) := by decide +kernel
theorem dX2_init_11 : decode cX2_init 11 = .ok (.putfield 13, 3) := by decide +kernel
theorem dX2_init_14 : decode cX2_init 14 = .ok (.aload_n 0, 1) := by decide +kernel
theorem dX2_init_15 : decode cX2_init 15 = .ok (.iload_n 2, 1) := by decide +kernel
theorem dX2_init_16 : decode cX2_init 16 = .ok (.putfield 17, 3) := by decide +kernel
theorem dX2_init_19 : decode cX2_init 19 = .ok (.aload_n 0, 1) := by decide +kernel
theorem dX2_init_20 : decode cX2_init 20 = .ok (.iload_n 3, 1) := by decide +kernel
theorem dX2_init_21 : decode cX2_init 21 = .ok (.putfield 21, 3) := by decide +kernel
theorem dX2_init_24 : decode cX2_init 24 = .ok (.aload_n 0, 1) := by decide +kernel
theorem dX2_init_25 : decode cX2_init 25 = .ok (.iload 4, 2) := by decide +kernel
theorem dX2_init_27 : decode cX2_init 27 = .ok (.putfield 24, 3) := by decide +kernel
theorem dX2_init_30 : decode cX2_init 30 = .ok (.return_, 1) := by decide +kernel
theorem dX3_init_0 : decode cX3_init 0 = .ok (.aload_n 0, 1) := by decide +kernel
theorem dX3_init_1 : decode cX3_init 1 = .ok (.invokespecial 3, 3) := by decide +kernel
theorem dX3_init_4 : decode cX3_init 4 = .ok (.aload_n 0, 1) := by decide +kernel
theorem dX3_init_5 : decode cX3_init 5 = .ok (.bipush 21, 2) := by decide +kernel
theorem dX3_init_7 : decode cX3_init 7 = .ok (.newarray .int, 2) := by decide +kernel
theorem dX3_init_9 : decode cX3_init 9 = .ok (.putfield 9, 3) := by decide +kernel
theorem dX3_init_12 : decode cX3_init 12 = .ok (.aload_n 0, 1) := by decide +kernel
theorem dX3_init_13 : decode cX3_init 13 = .ok (.bipush 21, 2) := by decide +kernel
theorem dX3_init_15 : decode cX3_init 15 = .ok (.newarray .int, 2) := by decide +kernel
theorem dX3_init_17 : decode cX3_init 17 = .ok (.putfield 15, 3) := by decide +kernel
theorem dX3_init_20 : decode cX3_init 20 = .ok (.aload_n 0, 1) := by decide +kernel
theorem dX3_init_21 : decode cX3_init 21 = .ok (.bipush 21, 2) := by decide +kernel
theorem dX3_init_23 : decode cX3_init 23 = .ok (.newarray .long, 2) := by decide +kernel
theorem dX3_init_25 : decode cX3_init 25 = .ok (.putfield 18, 3) := by decide +kernel
theorem dX3_init_28 : decode cX3_init 28 = .ok (.aload_n 0, 1) := by decide +kernel
theorem dX3_init_29 : decode cX3_init 29 = .ok (.bipush 21, 2) := by decide +kernel
theorem dX3_init_31 : decode cX3_init 31 = .ok (.newarray .long, 2) := by decide +kernel
theorem dX3_init_33 : decode cX3_init 33 = .ok (.putfield 22, 3) := by decide +kernel
theorem dX3_init_36 : decode cX3_init 36 = .ok (.aload_n 0, 1) := by decide +kernel
theorem dX3_init_37 : decode cX3_init 37 = .ok (.iload_n 1, 1) := by decide +kernel
theorem dX3_init_38 : decode cX3_init 38 = .ok (.putfield 25, 3) := by decide +kernel
theorem dX3_init_41 : decode cX3_init 41 = .ok (.aload_n 0, 1) := by decide +kernel
theorem dX3_init_42 : decode cX3_init 42 = .ok (.iload_n 2, 1) := by decide +kernel
theorem dX3_init_43 : decode cX3_init 43 = .ok (.putfield 29, 3) := by decide +kernel
theorem dX3_init_46 : decode cX3_init 46 = .ok (.return_, 1) := by decide +kernel
theorem dX3_add_0 : decode cX3_add 0 = .ok (.aload_n 0, 1) := by decide +kernel
theorem dX3_add_1 : decode cX3_add 1 = .ok (.getfield 32, 3) := by decide +kernel
theorem dX3_add_4 : decode cX3_add 4 = .ok (.bipush 21, 2) := by decide +kernel
theorem dX3_add_6 : decode cX3_add 6 = .ok (.if_icmp .lt 4, 3) := by decide +kernel
theorem dX3_add_9 : decode cX3_add 9 = .ok (.return_, 1) := by decide +kernel
theorem dX3_add_10 : decode cX3_add 10 = .ok (.aload_n 0, 1) := by decide +kernel
theorem dX3_add_11 : decode cX3_add 11 = .ok (.getfield 9, 3) := by decide +kernel
theorem dX3_add_14 : decode cX3_add 14 = .ok (.aload_n 0, 1) := by decide +kernel
theorem dX3_add_15 : decode cX3_add 15 = .ok (.getfield 32, 3) := by decide +kernel
theorem dX3_add_18 : decode cX3_add 18 = .ok (.iload_n 1, 1) := by decide +kernel
theorem dX3_add_19 : decode cX3_add 19 = .ok (.iastore, 1) := by decide +kernel
theorem dX3_add_20 : decode cX3_add 20 = .ok (.aload_n 0, 1) := by decide +kernel
theorem dX3_add_21 : decode cX3_add 21 = .ok (.getfield 15, 3) := by decide +kernel
theorem dX3_add_24 : decode cX3_add 24 = .ok (.aload_n 0, 1) := by decide +kernel
theorem dX3_add_25 : decode cX3_add 25 = .ok (.getfield 32, 3) := by decide +kernel
theorem dX3_add_28 : decode cX3_add 28 = .ok (.iload_n 2, 1) := by decide +kernel
theorem dX3_add_29 : decode cX3_add 29 = .ok (.iastore, 1) := by decide +kernel
theorem dX3_add_30 : decode cX3_add 30 = .ok (.aload_n 0, 1) := by decide +kernel
theorem dX3_add_31 : decode cX3_add 31 = .ok (.getfield 18, 3) := by decide +kernel
theorem dX3_add_34 : decode cX3_add 34 = .ok (.aload_n 0, 1) := by decide +kernel
theorem dX3_add_35 : decode cX3_add 35 = .ok (.getfield 32, 3) := by decide +kernel
theorem dX3_add_38 : decode cX3_add 38 = .ok (.lload_n 3, 1) := by decide +kernel
theorem dX3_add_39 : decode cX3_add 39 = .ok (.lastore, 1) := by decide +kernel
theorem dX3_add_40 : decode cX3_add 40 = .ok (.aload_n 0, 1) := by decide +kernel
theorem dX3_add_41 : decode cX3_add 41 = .ok (.getfield 22, 3) := by decide +kernel
theorem dX3_add_44 : decode cX3_add 44 = .ok (.aload_n 0, 1) := by decide +kernel
theorem dX3_add_45 : decode cX3_add 45 = .ok (.getfield 32, 3) := by decide +kernel
theorem dX3_add_48 : decode cX3_add 48 = .ok (.lload 5, 2) := by decide +kernel
theorem dX3_add_50 : decode cX3_add 50 = .ok (.lastore, 1) := by decide +kernel
theorem dX3_add_51 : decode cX3_add 51 = .ok (.aload_n 0, 1) := by decide +kernel
theorem dX3_add_52 : decode cX3_add 52 = .ok (.dup, 1) := by decide +kernel
theorem dX3_add_53 : decode cX3_add 53 = .ok (.getfield 32, 3) := by decide +kernel
theorem dX3_add_56 : decode cX3_add 56 = .ok (.iconst 1, 1) := by decide +kernel
theorem dX3_add_57 : decode cX3_add 57 = .ok (.iadd, 1) := by decide +kernel
theorem dX3_add_58 : decode cX3_add 58 = .ok (.putfield 32, 3) := by decide +kernel
theorem dX3_add_61 : decode cX3_add 61 = .ok (.aload_n 0, 1) := by decide +kernel
theorem dX3_add_62 : decode cX3_add 62 = .ok (.dup, 1) := by decide +kernel
theorem dX3_add_63 : decode cX3_add 63 = .ok (.getfield 35, 3) := by decide +kernel
theorem dX3_add_66 : decode cX3_add 66 = .ok (.lload 5, 2) := by decide +kernel
theorem dX3_add_68 : decode cX3_add 68 = .ok (.ladd, 1) := by decide +kernel
theorem dX3_add_69 : decode cX3_add 69 = .ok (.putfield 35, 3) := by decide +kernel
theorem dX3_add_72 : decode cX3_add 72 = .ok (.return_, 1) := by decide +kernel
theorem dX3_addSome_0 : decode cX3_addSome 0 = .ok (.lload_n 2, 1) := by decide +kernel
theorem dX3_addSome_1 : decode cX3_addSome 1 = .ok (.lconst 0, 1) := by decide +kernel
theorem dX3_addSome_2 : decode cX3_addSome 2 = .ok (.lcmp, 1) := by decide +kernel
theorem dX3_addSome_3 : decode cX3_addSome 3 = .ok (.ifCond .eq 11, 3) := by decide +kernel
theorem dX3_addSome_6 : decode cX3_addSome 6 = .ok (.aload_n 0, 1) := by decide +kernel
theorem dX3_addSome_7 : decode cX3_addSome 7 = .ok (.iload_n 1, 1) := by decide +kernel
theorem dX3_addSome_8 : decode cX3_addSome 8 = .ok (.iconst (-1), 1) := by decide +kernel
theorem dX3_addSome_9 : decode cX3_addSome 9 = .ok (.lconst 0, 1) := by decide +kernel
theorem dX3_addSome_10 : decode cX3_addSome 10 = .ok (.lload_n 2, 1) := by decide +kernel
theorem dX3_addSome_11 : decode cX3_addSome 11 = .ok (.invokevirtual 39, 3) := by decide +kernel
theorem dX3_addSome_14 : decode cX3_addSome 14 = .ok (.return_, 1) := by decide +kernel
theorem dX3_partOfSum_0 : decode cX3_partOfSum 0 = .ok (.aload_n 0, 1) := by decide +kernel
theorem dX3_partOfSum_1 : decode cX3_partOfSum 1 = .ok (.getfield 35, 3) := by decide +kernel
theorem dX3_partOfSum_4 : decode cX3_partOfSum 4 = .ok (.ldc2_w 43, 3) := by decide +kernel
theorem dX3_partOfSum_7 : decode cX3_partOfSum 7 = .ok (.invokestatic 45, 3) := by decide +kernel
theorem dX3_partOfSum_10 : decode cX3_partOfSum 10 = .ok (.iload_n 1, 1) := by decide +kernel
theorem dX3_partOfSum_11 : decode cX3_partOfSum 11 = .ok (.i2l, 1) := by decide +kernel
theorem dX3_partOfSum_12 : decode cX3_partOfSum 12 = .ok (.lmul, 1) := by decide +kernel
theorem dX3_partOfSum_13 : decode cX3_partOfSum 13 = .ok (.lstore_n 2, 1) := by decide +kernel
theorem dX3_partOfSum_14 : decode cX3_partOfSum 14 = .ok (.aload_n 0, 1) := by decide +kernel
theorem dX3_partOfSum_15 : decode cX3_partOfSum 15 = .ok (.getfield 35, 3) := by decide +kernel
theorem dX3_partOfSum_18 : decode cX3_partOfSum 18 = .ok (.ldc2_w 43, 3) := by decide +kernel
theorem dX3_partOfSum_21 : decode cX3_partOfSum 21 = .ok (.invokestatic 51, 3) := by decide +kernel
theorem dX3_partOfSum_24 : decode cX3_partOfSum 24 = .ok (.iload_n 1, 1) := by decide +kernel
theorem dX3_partOfSum_25 : decode cX3_partOfSum 25 = .ok (.i2l, 1) := by decide +kernel
theorem dX3_partOfSum_26 : decode cX3_partOfSum 26 = .ok (.lmul, 1) := by decide +kernel
theorem dX3_partOfSum_27 : decode cX3_partOfSum 27 = .ok (.lload_n 2, 1) := by decide +kernel
theorem dX3_partOfSum_28 : decode cX3_partOfSum 28 = .ok (.ldc2_w 43, 3) := by decide +kernel
theorem dX3_partOfSum_31 : decode cX3_partOfSum 31 = .ok (.ldiv, 1) := by decide +kernel
theorem dX3_partOfSum_32 : decode cX3_partOfSum 32 = .ok (.ladd, 1) := by decide +kernel
theorem dX3_partOfSum_33 : decode cX3_partOfSum 33 = .ok (.lstore 4, 2) := by decide +kernel
theorem dX3_partOfSum_35 : decode cX3_partOfSum 35 = .ok (.ldc2_w 54, 3) := by decide +kernel
theorem dX3_partOfSum_38 : decode cX3_partOfSum 38 = .ok (.lload_n 2, 1) := by decide +kernel
theorem dX3_partOfSum_39 : decode cX3_partOfSum 39 = .ok (.ldc2_w 43, 3) := by decide +kernel
theorem dX3_partOfSum_42 : decode cX3_partOfSum 42 = .ok (.lrem, 1) := by decide +kernel
theorem dX3_partOfSum_43 : decode cX3_partOfSum 43 = .ok (.lmul, 1) := by decide +kernel
theorem dX3_partOfSum_44 : decode cX3_partOfSum 44 = .ok (.lstore 6, 2) := by decide +kernel
theorem dX3_partOfSum_46 : decode cX3_partOfSum 46 = .ok (.lload 4, 2) := by decide +kernel
theorem dX3_partOfSum_48 : decode cX3_partOfSum 48 = .ok (.lconst 1, 1) := by decide +kernel
theorem dX3_partOfSum_49 : decode cX3_partOfSum 49 = .ok (.land, 1) := by decide +kernel
theorem dX3_partOfSum_50 : decode cX3_partOfSum 50 = .ok (.lconst 1, 1) := by decide +kernel
theorem dX3_partOfSum_51 : decode cX3_partOfSum 51 = .ok (.lcmp, 1) := by decide +kernel
theorem dX3_partOfSum_52 : decode cX3_partOfSum 52 = .ok (.ifCond .ne 7, 3) := by decide +kernel
theorem dX3_partOfSum_55 : decode cX3_partOfSum 55 = .ok (.iconst 1, 1) := by decide +kernel
theorem dX3_partOfSum_56 : decode cX3_partOfSum 56 = .ok (.goto 4, 3) := by decide +kernel
theorem dX3_partOfSum_59 : decode cX3_partOfSum 59 = .ok (.iconst 0, 1) := by decide +kernel
theorem dX3_partOfSum_60 : decode cX3_partOfSum 60 = .ok (.istore 8, 2) := by decide +kernel
theorem dX3_partOfSum_62 : decode cX3_partOfSum 62 = .ok (.lload 6, 2) := by decide +kernel
theorem dX3_partOfSum_64 : decode cX3_partOfSum 64 = .ok (.ldc2_w 43, 3) := by decide +kernel
theorem dX3_partOfSum_67 : decode cX3_partOfSum 67 = .ok (.lcmp, 1) := by decide +kernel
theorem dX3_partOfSum_68 : decode cX3_partOfSum 68 = .ok (.ifCond .gt 17, 3) := by decide +kernel
theorem dX3_partOfSum_71 : decode cX3_partOfSum 71 = .ok (.lload 6, 2) := by decide +kernel
theorem dX3_partOfSum_73 : decode cX3_partOfSum 73 = .ok (.ldc2_w 43, 3) := by decide +kernel
theorem dX3_partOfSum_76 : decode cX3_partOfSum 76 = .ok (.lcmp, 1) := by decide +kernel
theorem dX3_partOfSum_77 : decode cX3_partOfSum 77 = .ok (.ifCond .ne 14, 3) := by decide +kernel
theorem dX3_partOfSum_80 : decode cX3_partOfSum 80 = .ok (.iload 8, 2) := by decide +kernel
theorem dX3_partOfSum_82 : decode cX3_partOfSum 82 = .ok (.ifCond .eq 9, 3) := by decide +kernel
theorem dX3_partOfSum_85 : decode cX3_partOfSum 85 = .ok (.lload 4, 2) := by decide +kernel
theorem dX3_partOfSum_87 : decode cX3_partOfSum 87 = .ok (.lconst 1, 1) := by decide +kernel
theorem dX3_partOfSum_88 : decode cX3_partOfSum 88 = .ok (.ladd, 1) := by decide +kernel
theorem dX3_partOfSum_89 : decode cX3_partOfSum 89 = .ok (.lstore 4, 2) := by decide +kernel
theorem dX3_partOfSum_91 : decode cX3_partOfSum 91 = .ok (.lload 4, 2) := by decide +kernel
theorem dX3_partOfSum_93 : decode cX3_partOfSum 93 = .ok (.lreturn, 1) := by decide +kernel
theorem dX4_init_0 : decode cX4_init 0 = .ok (.aload_n 0, 1) := by decide +kernel
theorem dX4_init_1 : decode cX4_init 1 = .ok (.invokespecial 3, 3) := by decide +kernel
theorem dX4_init_4 : decode cX4_init 4 = .ok (.aload_n 0, 1) := by decide +kernel
theorem dX4_init_5 : decode cX4_init 5 = .ok (.sipush 300, 3) := by decide +kernel
theorem dX4_init_8 : decode cX4_init 8 = .ok (.newarray .long, 2) := by decide +kernel
theorem dX4_init_10 : decode cX4_init 10 = .ok (.putfield 9, 3) := by decide +kernel
theorem dX4_init_13 : decode cX4_init 13 = .ok (.aload_n 0, 1) := by decide +kernel
theorem dX4_init_14 : decode cX4_init 14 = .ok (.sipush 300, 3) := by decide +kernel
theorem dX4_init_17 : decode cX4_init 17 = .ok (.newarray .int, 2) := by decide +kernel
theorem dX4_init_19 : decode cX4_init 19 = .ok (.putfield 15, 3) := by decide +kernel
theorem dX4_init_22 : decode cX4_init 22 = .ok (.aload_n 0, 1) := by decide +kernel
theorem dX4_init_23 : decode cX4_init 23 = .ok (.sipush 300, 3) := by decide +kernel
theorem dX4_init_26 : decode cX4_init 26 = .ok (.newarray .int, 2) := by decide +kernel
theorem dX4_init_28 : decode cX4_init 28 = .ok (.putfield 19, 3) := by decide +kernel
theorem dX4_init_31 : decode cX4_init 31 = .ok (.return_, 1) := by decide +kernel
theorem dX4_knows_0 : decode cX4_knows 0 = .ok (.iconst 0, 1) := by decide +kernel
theorem dX4_knows_1 : decode cX4_knows 1 = .ok (.istore 4, 2) := by decide +kernel
theorem dX4_knows_3 : decode cX4_knows 3 = .ok (.iload 4, 2) := by decide +kernel
theorem dX4_knows_5 : decode cX4_knows 5 = .ok (.aload_n 0, 1) := by decide +kernel
theorem dX4_knows_6 : decode cX4_knows 6 = .ok (.getfield 22, 3) := by decide +kernel
theorem dX4_knows_9 : decode cX4_knows 9 = .ok (.if_icmp .ge 34, 3) := by decide +kernel
theorem dX4_knows_12 : decode cX4_knows 12 = .ok (.aload_n 0, 1) := by decide +kernel
theorem dX4_knows_13 : decode cX4_knows 13 = .ok (.getfield 9, 3) := by decide +kernel
theorem dX4_knows_16 : decode cX4_knows 16 = .ok (.iload 4, 2) := by decide +kernel
theorem dX4_knows_18 : decode cX4_knows 18 = .ok (.laload, 1) := by decide +kernel
theorem dX4_knows_19 : decode cX4_knows 19 = .ok (.lload_n 2, 1) := by decide +kernel
theorem dX4_knows_20 : decode cX4_knows 20 = .ok (.lcmp, 1) := by decide +kernel
theorem dX4_knows_21 : decode cX4_knows 21 = .ok (.ifCond .ne 16, 3) := by decide +kernel
theorem dX4_knows_24 : decode cX4_knows 24 = .ok (.aload_n 0, 1) := by decide +kernel
theorem dX4_knows_25 : decode cX4_knows 25 = .ok (.getfield 15, 3) := by decide +kernel
theorem dX4_knows_28 : decode cX4_knows 28 = .ok (.iload 4, 2) := by decide +kernel
theorem dX4_knows_30 : decode cX4_knows 30 = .ok (.iaload, 1) := by decide +kernel
theorem dX4_knows_31 : decode cX4_knows 31 = .ok (.iload_n 1, 1) := by decide +kernel
theorem dX4_knows_32 : decode cX4_knows 32 = .ok (.if_icmp .ne 5, 3) := by decide +kernel
theorem dX4_knows_35 : decode cX4_knows 35 = .ok (.iconst 1, 1) := by decide +kernel
theorem dX4_knows_36 : decode cX4_knows 36 = .ok (.ireturn, 1) := by decide +kernel
theorem dX4_knows_37 : decode cX4_knows 37 = .ok (.iinc 4 1, 3) := by decide +kernel
theorem dX4_knows_40 : decode cX4_knows 40 = .ok (.goto (-37), 3) := by decide +kernel
theorem dX4_knows_43 : decode cX4_knows 43 = .ok (.iconst 0, 1) := by decide +kernel
theorem dX4_knows_44 : decode cX4_knows 44 = .ok (.ireturn, 1) := by decide +kernel
theorem dX4_learn_0 : decode cX4_learn 0 = .ok (.aload_n 0, 1) := by decide +kernel
theorem dX4_learn_1 : decode cX4_learn 1 = .ok (.getfield 22, 3) := by decide +kernel
theorem dX4_learn_4 : decode cX4_learn 4 = .ok (.sipush 300, 3) := by decide +kernel
theorem dX4_learn_7 : decode cX4_learn 7 = .ok (.if_icmp .lt 5, 3) := by decide +kernel
theorem dX4_learn_10 : decode cX4_learn 10 = .ok (.iconst 0, 1) := by decide +kernel
theorem dX4_learn_11 : decode cX4_learn 11 = .ok (.ireturn, 1) := by decide +kernel
theorem dX4_learn_12 : decode cX4_learn 12 = .ok (.aload_n 0, 1) := by decide +kernel
theorem dX4_learn_13 : decode cX4_learn 13 = .ok (.getfield 9, 3) := by decide +kernel
theorem dX4_learn_16 : decode cX4_learn 16 = .ok (.aload_n 0, 1) := by decide +kernel
theorem dX4_learn_17 : decode cX4_learn 17 = .ok (.getfield 22, 3) := by decide +kernel
theorem dX4_learn_20 : decode cX4_learn 20 = .ok (.lload_n 2, 1) := by decide +kernel
theorem dX4_learn_21 : decode cX4_learn 21 = .ok (.lastore, 1) := by decide +kernel
theorem dX4_learn_22 : decode cX4_learn 22 = .ok (.aload_n 0, 1) := by decide +kernel
theorem dX4_learn_23 : decode cX4_learn 23 = .ok (.getfield 15, 3) := by decide +kernel
theorem dX4_learn_26 : decode cX4_learn 26 = .ok (.aload_n 0, 1) := by decide +kernel
theorem dX4_learn_27 : decode cX4_learn 27 = .ok (.getfield 22, 3) := by decide +kernel
theorem dX4_learn_30 : decode cX4_learn 30 = .ok (.iload_n 1, 1) := by decide +kernel
theorem dX4_learn_31 : decode cX4_learn 31 = .ok (.iastore, 1) := by decide +kernel
theorem dX4_learn_32 : decode cX4_learn 32 = .ok (.aload_n 0, 1) := by decide +kernel
theorem dX4_learn_33 : decode cX4_learn 33 = .ok (.getfield 19, 3) := by decide +kernel
theorem dX4_learn_36 : decode cX4_learn 36 = .ok (.aload_n 0, 1) := by decide +kernel
theorem dX4_learn_37 : decode cX4_learn 37 = .ok (.getfield 22, 3) := by decide +kernel
theorem dX4_learn_40 : decode cX4_learn 40 = .ok (.iload 4, 2) := by decide +kernel
theorem dX4_learn_42 : decode cX4_learn 42 = .ok (.iastore, 1) := by decide +kernel
theorem dX4_learn_43 : decode cX4_learn 43 = .ok (.aload_n 0, 1) := by decide +kernel
theorem dX4_learn_44 : decode cX4_learn 44 = .ok (.dup, 1) := by decide +kernel
theorem dX4_learn_45 : decode cX4_learn 45 = .ok (.getfield 22, 3) := by decide +kernel
theorem dX4_learn_48 : decode cX4_learn 48 = .ok (.iconst 1, 1) := by decide +kernel
theorem dX4_learn_49 : decode cX4_learn 49 = .ok (.iadd, 1) := by decide +kernel
theorem dX4_learn_50 : decode cX4_learn 50 = .ok (.putfield 22, 3) := by decide +kernel
theorem dX4_learn_53 : decode cX4_learn 53 = .ok (.iconst 1, 1) := by decide +kernel
theorem dX4_learn_54 : decode cX4_learn 54 = .ok (.ireturn, 1) := by decide +kernel
theorem dX4_forgetOld_0 : decode cX4_forgetOld 0 = .ok (.iconst 0, 1) := by decide +kernel
theorem dX4_forgetOld_1 : decode cX4_forgetOld 1 = .ok (.istore_n 2, 1) := by decide +kernel
theorem dX4_forgetOld_2 : decode cX4_forgetOld 2 = .ok (.iconst 0, 1) := by decide +kernel
theorem dX4_forgetOld_3 : decode cX4_forgetOld 3 = .ok (.istore_n 3, 1) := by decide +kernel
theorem dX4_forgetOld_4 : decode cX4_forgetOld 4 = .ok (.iload_n 3, 1) := by decide +kernel
theorem dX4_forgetOld_5 : decode cX4_forgetOld 5 = .ok (.aload_n 0, 1) := by decide +kernel
theorem dX4_forgetOld_6 : decode cX4_forgetOld 6 = .ok (.getfield 22, 3) := by decide +kernel
theorem dX4_forgetOld_9 : decode cX4_forgetOld 9 = .ok (.if_icmp .ge 62, 3) := by decide +kernel
theorem dX4_forgetOld_12 : decode cX4_forgetOld 12 = .ok (.iload_n 1, 1) := by decide +kernel
theorem dX4_forgetOld_13 : decode cX4_forgetOld 13 = .ok (.aload_n 0, 1) := by decide +kernel
theorem dX4_forgetOld_14 : decode cX4_forgetOld 14 = .ok (.getfield 19, 3) := by decide +kernel
theorem dX4_forgetOld_17 : decode cX4_forgetOld 17 = .ok (.iload_n 3, 1) := by decide +kernel
theorem dX4_forgetOld_18 : decode cX4_forgetOld 18 = .ok (.iaload, 1) := by decide +kernel
theorem dX4_forgetOld_19 : decode cX4_forgetOld 19 = .ok (.isub, 1) := by decide +kernel
theorem dX4_forgetOld_20 : decode cX4_forgetOld 20 = .ok (.sipush 1000, 3) := by decide +kernel
theorem dX4_forgetOld_23 : decode cX4_forgetOld 23 = .ok (.if_icmp .ge 42, 3) := by decide +kernel
theorem dX4_forgetOld_26 : decode cX4_forgetOld 26 = .ok (.aload_n 0, 1) := by decide +kernel
theorem dX4_forgetOld_27 : decode cX4_forgetOld 27 = .ok (.getfield 9, 3) := by decide +kernel
theorem dX4_forgetOld_30 : decode cX4_forgetOld 30 = .ok (.iload_n 2, 1) := by decide +kernel
theorem dX4_forgetOld_31 : decode cX4_forgetOld 31 = .ok (.aload_n 0, 1) := by decide +kernel
theorem dX4_forgetOld_32 : decode cX4_forgetOld 32 = .ok (.getfield 9, 3) := by decide +kernel
theorem dX4_forgetOld_35 : decode cX4_forgetOld 35 = .ok (.iload_n 3, 1) := by decide +kernel
theorem dX4_forgetOld_36 : decode cX4_forgetOld 36 = .ok (.laload, 1) := by decide +kernel
theorem dX4_forgetOld_37 : decode cX4_forgetOld 37 = .ok (.lastore, 1) := by decide +kernel
theorem dX4_forgetOld_38 : decode cX4_forgetOld 38 = .ok (.aload_n 0, 1) := by decide +kernel
theorem dX4_forgetOld_39 : decode cX4_forgetOld 39 = .ok (.getfield 15, 3) := by decide +kernel
theorem dX4_forgetOld_42 : decode cX4_forgetOld 42 = .ok (.iload_n 2, 1) := by decide +kernel
theorem dX4_forgetOld_43 : decode cX4_forgetOld 43 = .ok (.aload_n 0, 1) := by decide +kernel
theorem dX4_forgetOld_44 : decode cX4_forgetOld 44 = .ok (.getfield 15, 3) := by decide +kernel
theorem dX4_forgetOld_47 : decode cX4_forgetOld 47 = .ok (.iload_n 3, 1) := by decide +kernel
theorem dX4_forgetOld_48 : decode cX4_forgetOld 48 = .ok (.iaload, 1) := by decide +kernel
theorem dX4_forgetOld_49 : decode cX4_forgetOld 49 = .ok (.iastore, 1) := by decide +kernel
theorem dX4_forgetOld_50 : decode cX4_forgetOld 50 = .ok (.aload_n 0, 1) := by decide +kernel
theorem dX4_forgetOld_51 : decode cX4_forgetOld 51 = .ok (.getfield 19, 3) := by decide +kernel
theorem dX4_forgetOld_54 : decode cX4_forgetOld 54 = .ok (.iload_n 2, 1) := by decide +kernel
theorem dX4_forgetOld_55 : decode cX4_forgetOld 55 = .ok (.aload_n 0, 1) := by decide +kernel
theorem dX4_forgetOld_56 : decode cX4_forgetOld 56 = .ok (.getfield 19, 3) := by decide +kernel
theorem dX4_forgetOld_59 : decode cX4_forgetOld 59 = .ok (.iload_n 3, 1) := by decide +kernel
theorem dX4_forgetOld_60 : decode cX4_forgetOld 60 = .ok (.iaload, 1) := by decide +kernel
theorem dX4_forgetOld_61 : decode cX4_forgetOld 61 = .ok (.iastore, 1) := by decide +kernel
theorem dX4_forgetOld_62 : decode cX4_forgetOld 62 = .ok (.iinc 2 1, 3) := by decide +kernel
theorem dX4_forgetOld_65 : decode cX4_forgetOld 65 = .ok (.iinc 3 1, 3) := by decide +kernel
theorem dX4_forgetOld_68 : decode cX4_forgetOld 68 = .ok (.goto (-64), 3) := by decide +kernel
theorem dX4_forgetOld_71 : decode cX4_forgetOld 71 = .ok (.aload_n 0, 1) := by decide +kernel
theorem dX4_forgetOld_72 : decode cX4_forgetOld 72 = .ok (.iload_n 2, 1) := by decide +kernel
theorem dX4_forgetOld_73 : decode cX4_forgetOld 73 = .ok (.putfield 22, 3) := by decide +kernel
theorem dX4_forgetOld_76 : decode cX4_forgetOld 76 = .ok (.return_, 1) := by decide +kernel
theorem dX5_init_0 : decode cX5_init 0 = .ok (.aload_n 0, 1) := by decide +kernel
theorem dX5_init_1 : decode cX5_init 1 = .ok (.invokespecial 3, 3) := by decide +kernel
theorem dX5_init_4 : decode cX5_init 4 = .ok (.aload_n 0, 1) := by decide +kernel
theorem dX5_init_5 : decode cX5_init 5 = .ok (.iconst 5, 1) := by decide +kernel
theorem dX5_init_6 : decode cX5_init 6 = .ok (.newarray .long, 2) := by decide +kernel
theorem dX5_init_8 : decode cX5_init 8 = .ok (.putfield 9, 3) := by decide +kernel
theorem dX5_init_11 : decode cX5_init 11 = .ok (.aload_n 0, 1) := by decide +kernel
theorem dX5_init_12 : decode cX5_init 12 = .ok (.iconst 5, 1) := by decide +kernel
theorem dX5_init_13 : decode cX5_init 13 = .ok (.newarray .int, 2) := by decide +kernel
theorem dX5_init_15 : decode cX5_init 15 = .ok (.putfield 15, 3) := by decide +kernel
theorem dX5_init_18 : decode cX5_init 18 = .ok (.aload_n 0, 1) := by decide +kernel
theorem dX5_init_19 : decode cX5_init 19 = .ok (.iconst 5, 1) := by decide +kernel
theorem dX5_init_20 : decode cX5_init 20 = .ok (.newarray .int, 2) := by decide +kernel
theorem dX5_init_22 : decode cX5_init 22 = .ok (.putfield 19, 3) := by decide +kernel
theorem dX5_init_25 : decode cX5_init 25 = .ok (.aload_n 0, 1) := by decide +kernel
theorem dX5_init_26 : decode cX5_init 26 = .ok (.iconst 1, 1) := by decide +kernel
theorem dX5_init_27 : decode cX5_init 27 = .ok (.putfield 22, 3) := by decide +kernel
theorem dX5_init_30 : decode cX5_init 30 = .ok (.aload_n 0, 1) := by decide +kernel
theorem dX5_init_31 : decode cX5_init 31 = .ok (.iconst 0, 1) := by decide +kernel
theorem dX5_init_32 : decode cX5_init 32 = .ok (.putfield 26, 3) := by decide +kernel
theorem dX5_init_35 : decode cX5_init 35 = .ok (.aload_n 0, 1) := by decide +kernel
theorem dX5_init_36 : decode cX5_init 36 = .ok (.iconst 1, 1) := by decide +kernel
theorem dX5_init_37 : decode cX5_init 37 = .ok (.putfield 29, 3) := by decide +kernel
theorem dX5_init_40 : decode cX5_init 40 = .ok (.aload_n 0, 1) := by decide +kernel
theorem dX5_init_41 : decode cX5_init 41 = .ok (.getfield 9, 3) := by decide +kernel
theorem dX5_init_44 : decode cX5_init 44 = .ok (.iconst 0, 1) := by decide +kernel
theorem dX5_init_45 : decode cX5_init 45 = .ok (.lconst 1, 1) := by decide +kernel
theorem dX5_init_46 : decode cX5_init 46 = .ok (.lastore, 1) := by decide +kernel
theorem dX5_init_47 : decode cX5_init 47 = .ok (.return_, 1) := by decide +kernel
theorem dX5_putTier_0 : decode cX5_putTier 0 = .ok (.iload_n 1, 1) := by decide +kernel
theorem dX5_putTier_1 : decode cX5_putTier 1 = .ok (.ifCond .lt 16, 3) := by decide +kernel
theorem dX5_putTier_4 : decode cX5_putTier 4 = .ok (.iload_n 1, 1) := by decide +kernel
theorem dX5_putTier_5 : decode cX5_putTier 5 = .ok (.aload_n 0, 1) := by decide +kernel
theorem dX5_putTier_6 : decode cX5_putTier 6 = .ok (.getfield 22, 3) := by decide +kernel
theorem dX5_putTier_9 : decode cX5_putTier 9 = .ok (.if_icmp .gt 8, 3) := by decide +kernel
theorem dX5_putTier_12 : decode cX5_putTier 12 = .ok (.iload_n 1, 1) := by decide +kernel
theorem dX5_putTier_13 : decode cX5_putTier 13 = .ok (.iconst 5, 1) := by decide +kernel
theorem dX5_putTier_14 : decode cX5_putTier 14 = .ok (.if_icmp .lt 5, 3) := by decide +kernel
theorem dX5_putTier_17 : decode cX5_putTier 17 = .ok (.iconst 0, 1) := by decide +kernel
theorem dX5_putTier_18 : decode cX5_putTier 18 = .ok (.ireturn, 1) := by decide +kernel
theorem dX5_putTier_19 : decode cX5_putTier 19 = .ok (.aload_n 0, 1) := by decide +kernel
theorem dX5_putTier_20 : decode cX5_putTier 20 = .ok (.getfield 22, 3) := by decide +kernel
theorem dX5_putTier_23 : decode cX5_putTier 23 = .ok (.iload_n 1, 1) := by decide +kernel
theorem dX5_putTier_24 : decode cX5_putTier 24 = .ok (.iconst 1, 1) := by decide +kernel
theorem dX5_putTier_25 : decode cX5_putTier 25 = .ok (.iadd, 1) := by decide +kernel
theorem dX5_putTier_26 : decode cX5_putTier 26 = .ok (.invokestatic 32, 3) := by decide +kernel
theorem dX5_putTier_29 : decode cX5_putTier 29 = .ok (.istore 6, 2) := by decide +kernel
theorem dX5_putTier_31 : decode cX5_putTier 31 = .ok (.aload_n 0, 1) := by decide +kernel
theorem dX5_putTier_32 : decode cX5_putTier 32 = .ok (.iload_n 1, 1) := by decide +kernel
theorem dX5_putTier_33 : decode cX5_putTier 33 = .ok (.lload_n 2, 1) := by decide +kernel
theorem dX5_putTier_34 : decode cX5_putTier 34 = .ok (.iload 6, 2) := by decide +kernel
theorem dX5_putTier_36 : decode cX5_putTier 36 = .ok (.invokevirtual 38, 3) := by decide +kernel
theorem dX5_putTier_39 : decode cX5_putTier 39 = .ok (.ifCond .ne 5, 3) := by decide +kernel
theorem dX5_putTier_42 : decode cX5_putTier 42 = .ok (.iconst 0, 1) := by decide +kernel
theorem dX5_putTier_43 : decode cX5_putTier 43 = .ok (.ireturn, 1) := by decide +kernel
theorem dX5_putTier_44 : decode cX5_putTier 44 = .ok (.aload_n 0, 1) := by decide +kernel
theorem dX5_putTier_45 : decode cX5_putTier 45 = .ok (.getfield 9, 3) := by decide +kernel
theorem dX5_putTier_48 : decode cX5_putTier 48 = .ok (.iload_n 1, 1) := by decide +kernel
theorem dX5_putTier_49 : decode cX5_putTier 49 = .ok (.lload_n 2, 1) := by decide +kernel
theorem dX5_putTier_50 : decode cX5_putTier 50 = .ok (.lastore, 1) := by decide +kernel
theorem dX5_putTier_51 : decode cX5_putTier 51 = .ok (.aload_n 0, 1) := by decide +kernel
theorem dX5_putTier_52 : decode cX5_putTier 52 = .ok (.getfield 15, 3) := by decide +kernel
theorem dX5_putTier_55 : decode cX5_putTier 55 = .ok (.iload_n 1, 1) := by decide +kernel
theorem dX5_putTier_56 : decode cX5_putTier 56 = .ok (.iload 4, 2) := by decide +kernel
theorem dX5_putTier_58 : decode cX5_putTier 58 = .ok (.iastore, 1) := by decide +kernel
theorem dX5_putTier_59 : decode cX5_putTier 59 = .ok (.aload_n 0, 1) := by decide +kernel
theorem dX5_putTier_60 : decode cX5_putTier 60 = .ok (.getfield 19, 3) := by decide +kernel
theorem dX5_putTier_63 : decode cX5_putTier 63 = .ok (.iload_n 1, 1) := by decide +kernel
theorem dX5_putTier_64 : decode cX5_putTier 64 = .ok (.iload 5, 2) := by decide +kernel
theorem dX5_putTier_66 : decode cX5_putTier 66 = .ok (.iastore, 1) := by decide +kernel
theorem dX5_putTier_67 : decode cX5_putTier 67 = .ok (.aload_n 0, 1) := by decide +kernel
theorem dX5_putTier_68 : decode cX5_putTier 68 = .ok (.iload 6, 2) := by decide +kernel
theorem dX5_putTier_70 : decode cX5_putTier 70 = .ok (.putfield 22, 3) := by decide +kernel
theorem dX5_putTier_73 : decode cX5_putTier 73 = .ok (.iconst 1, 1) := by decide +kernel
theorem dX5_putTier_74 : decode cX5_putTier 74 = .ok (.ireturn, 1) := by decide +kernel
theorem dX5_wouldRise_0 : decode cX5_wouldRise 0 = .ok (.lconst 0, 1) := by decide +kernel
theorem dX5_wouldRise_1 : decode cX5_wouldRise 1 = .ok (.lstore 5, 2) := by decide +kernel
theorem dX5_wouldRise_3 : decode cX5_wouldRise 3 = .ok (.iconst 0, 1) := by decide +kernel
theorem dX5_wouldRise_4 : decode cX5_wouldRise 4 = .ok (.istore 7, 2) := by decide +kernel
theorem dX5_wouldRise_6 : decode cX5_wouldRise 6 = .ok (.iload 7, 2) := by decide +kernel
theorem dX5_wouldRise_8 : decode cX5_wouldRise 8 = .ok (.iload 4, 2) := by decide +kernel
theorem dX5_wouldRise_10 : decode cX5_wouldRise 10 = .ok (.iconst 1, 1) := by decide +kernel
theorem dX5_wouldRise_11 : decode cX5_wouldRise 11 = .ok (.isub, 1) := by decide +kernel
theorem dX5_wouldRise_12 : decode cX5_wouldRise 12 = .ok (.if_icmp .ge 42, 3) := by decide +kernel
theorem dX5_wouldRise_15 : decode cX5_wouldRise 15 = .ok (.iload 7, 2) := by decide +kernel
theorem dX5_wouldRise_17 : decode cX5_wouldRise 17 = .ok (.iload_n 1, 1) := by decide +kernel
theorem dX5_wouldRise_18 : decode cX5_wouldRise 18 = .ok (.if_icmp .ne 7, 3) := by decide +kernel
theorem dX5_wouldRise_21 : decode cX5_wouldRise 21 = .ok (.lload_n 2, 1) := by decide +kernel
theorem dX5_wouldRise_22 : decode cX5_wouldRise 22 = .ok (.goto 10, 3) := by decide +kernel
theorem dX5_wouldRise_25 : decode cX5_wouldRise 25 = .ok (.aload_n 0, 1) := by decide +kernel
theorem dX5_wouldRise_26 : decode cX5_wouldRise 26 = .ok (.getfield 9, 3) := by decide +kernel
theorem dX5_wouldRise_29 : decode cX5_wouldRise 29 = .ok (.iload 7, 2) := by decide +kernel
theorem dX5_wouldRise_31 : decode cX5_wouldRise 31 = .ok (.laload, 1) := by decide +kernel
theorem dX5_wouldRise_32 : decode cX5_wouldRise 32 = .ok (.lstore 8, 2) := by decide +kernel
theorem dX5_wouldRise_34 : decode cX5_wouldRise 34 = .ok (.lload 8, 2) := by decide +kernel
theorem dX5_wouldRise_36 : decode cX5_wouldRise 36 = .ok (.lload 5, 2) := by decide +kernel
theorem dX5_wouldRise_38 : decode cX5_wouldRise 38 = .ok (.lcmp, 1) := by decide +kernel
theorem dX5_wouldRise_39 : decode cX5_wouldRise 39 = .ok (.ifCond .gt 5, 3) := by decide +kernel
theorem dX5_wouldRise_42 : decode cX5_wouldRise 42 = .ok (.iconst 0, 1) := by decide +kernel
theorem dX5_wouldRise_43 : decode cX5_wouldRise 43 = .ok (.ireturn, 1) := by decide +kernel
theorem dX5_wouldRise_44 : decode cX5_wouldRise 44 = .ok (.lload 8, 2) := by decide +kernel
theorem dX5_wouldRise_46 : decode cX5_wouldRise 46 = .ok (.lstore 5, 2) := by decide +kernel
theorem dX5_wouldRise_48 : decode cX5_wouldRise 48 = .ok (.iinc 7 1, 3) := by decide +kernel
theorem dX5_wouldRise_51 : decode cX5_wouldRise 51 = .ok (.goto (-45), 3) := by decide +kernel
theorem dX5_wouldRise_54 : decode cX5_wouldRise 54 = .ok (.iconst 1, 1) := by decide +kernel
theorem dX5_wouldRise_55 : decode cX5_wouldRise 55 = .ok (.ireturn, 1) := by decide +kernel
theorem dX5_costOf_0 : decode cX5_costOf 0 = .ok (.lload_n 1, 1) := by decide +kernel
theorem dX5_costOf_1 : decode cX5_costOf 1 = .ok (.lconst 0, 1) := by decide +kernel
theorem dX5_costOf_2 : decode cX5_costOf 2 = .ok (.lcmp, 1) := by decide +kernel
theorem dX5_costOf_3 : decode cX5_costOf 3 = .ok (.ifCond .gt 5, 3) := by decide +kernel
theorem dX5_costOf_6 : decode cX5_costOf 6 = .ok (.lconst 0, 1) := by decide +kernel
theorem dX5_costOf_7 : decode cX5_costOf 7 = .ok (.lreturn, 1) := by decide +kernel
theorem dX5_costOf_8 : decode cX5_costOf 8 = .ok (.aload_n 0, 1) := by decide +kernel
theorem dX5_costOf_9 : decode cX5_costOf 9 = .ok (.getfield 26, 3) := by decide +kernel
theorem dX5_costOf_12 : decode cX5_costOf 12 = .ok (.iconst 1, 1) := by decide +kernel
theorem dX5_costOf_13 : decode cX5_costOf 13 = .ok (.if_icmp .ne 11, 3) := by decide +kernel
theorem dX5_costOf_16 : decode cX5_costOf 16 = .ok (.aload_n 0, 1) := by decide +kernel
theorem dX5_costOf_17 : decode cX5_costOf 17 = .ok (.lload_n 1, 1) := by decide +kernel
theorem dX5_costOf_18 : decode cX5_costOf 18 = .ok (.invokevirtual 42, 3) := by decide +kernel
theorem dX5_costOf_21 : decode cX5_costOf 21 = .ok (.goto 8, 3) := by decide +kernel
theorem dX5_costOf_24 : decode cX5_costOf 24 = .ok (.aload_n 0, 1) := by decide +kernel
theorem dX5_costOf_25 : decode cX5_costOf 25 = .ok (.lload_n 1, 1) := by decide +kernel
theorem dX5_costOf_26 : decode cX5_costOf 26 = .ok (.invokevirtual 46, 3) := by decide +kernel
theorem dX5_costOf_29 : decode cX5_costOf 29 = .ok (.lreturn, 1) := by decide +kernel
theorem dX5_costAtLastTier_0 : decode cX5_costAtLastTier 0 = .ok (.iconst 0, 1) := by decide +kernel
theorem dX5_costAtLastTier_1 : decode cX5_costAtLastTier 1 = .ok (.istore_n 3, 1) := by decide +kernel
theorem dX5_costAtLastTier_2 : decode cX5_costAtLastTier 2 = .ok (.iload_n 3, 1) := by decide +kernel
theorem dX5_costAtLastTier_3 : decode cX5_costAtLastTier 3 = .ok (.aload_n 0, 1) := by decide +kernel
theorem dX5_costAtLastTier_4 : decode cX5_costAtLastTier 4 = .ok (.getfield 22, 3) := by decide +kernel
theorem dX5_costAtLastTier_7 : decode cX5_costAtLastTier 7 = .ok (.iconst 1, 1) := by decide +kernel
theorem dX5_costAtLastTier_8 : decode cX5_costAtLastTier 8 = .ok (.isub, 1) := by decide +kernel
theorem dX5_costAtLastTier_9 : decode cX5_costAtLastTier 9 = .ok (.if_icmp .ge 20, 3) := by decide +kernel
theorem dX5_costAtLastTier_12 : decode cX5_costAtLastTier 12 = .ok (.lload_n 1, 1) := by decide +kernel
theorem dX5_costAtLastTier_13 : decode cX5_costAtLastTier 13 = .ok (.aload_n 0, 1) := by decide +kernel
theorem dX5_costAtLastTier_14 : decode cX5_costAtLastTier 14 = .ok (.getfield 9, 3) := by decide +kernel
theorem dX5_costAtLastTier_17 : decode cX5_costAtLastTier 17 = .ok (.iload_n 3, 1) := by decide +kernel
theorem dX5_costAtLastTier_18 : decode cX5_costAtLastTier 18 = .ok (.laload, 1) := by decide +kernel
theorem dX5_costAtLastTier_19 : decode cX5_costAtLastTier 19 = .ok (.lcmp, 1) := by decide +kernel
theorem dX5_costAtLastTier_20 : decode cX5_costAtLastTier 20 = .ok (.ifCond .le 9, 3) := by decide +kernel
theorem dX5_costAtLastTier_23 : decode cX5_costAtLastTier 23 = .ok (.iinc 3 1, 3) := by decide +kernel
theorem dX5_costAtLastTier_26 : decode cX5_costAtLastTier 26 = .ok (.goto (-24), 3) := by decide +kernel
theorem dX5_costAtLastTier_29 : decode cX5_costAtLastTier 29 = .ok (.lload_n 1, 1) := by decide +kernel
theorem dX5_costAtLastTier_30 : decode cX5_costAtLastTier 30 = .ok (.aload_n 0, 1) := by decide +kernel
theorem dX5_costAtLastTier_31 : decode cX5_costAtLastTier 31 = .ok (.getfield 15, 3) := by decide +kernel
theorem dX5_costAtLastTier_34 : decode cX5_costAtLastTier 34 = .ok (.iload_n 3, 1) := by decide +kernel
theorem dX5_costAtLastTier_35 : decode cX5_costAtLastTier 35 = .ok (.iaload, 1) := by decide +kernel
theorem dX5_costAtLastTier_36 : decode cX5_costAtLastTier 36 = .ok (.i2l, 1) := by decide +kernel
theorem dX5_costAtLastTier_37 : decode cX5_costAtLastTier 37 = .ok (.lmul, 1) := by decide +kernel
theorem dX5_costAtLastTier_38 : decode cX5_costAtLastTier 38 = .ok (.aload_n 0, 1) := by decide +kernel
theorem dX5_costAtLastTier_39 : decode cX5_costAtLastTier 39 = .ok (.getfield 19, 3) := by decide +kernel
theorem dX5_costAtLastTier_42 : decode cX5_costAtLastTier 42 = .ok (.iload_n 3, 1) := by decide +kernel
theorem dX5_costAtLastTier_43 : decode cX5_costAtLastTier 43 = .ok (.iaload, 1) := by decide +kernel
theorem dX5_costAtLastTier_44 : decode cX5_costAtLastTier 44 = .ok (.i2l, 1) := by decide +kernel
theorem dX5_costAtLastTier_45 : decode cX5_costAtLastTier 45 = .ok (.ladd, 1) := by decide +kernel
theorem dX5_costAtLastTier_46 : decode cX5_costAtLastTier 46 = .ok (.lreturn, 1) := by decide +kernel
theorem dX5_costByTiers_0 : decode cX5_costByTiers 0 = .ok (.lconst 0, 1) := by decide +kernel
theorem dX5_costByTiers_1 : decode cX5_costByTiers 1 = .ok (.lstore_n 3, 1) := by decide +kernel
theorem dX5_costByTiers_2 : decode cX5_costByTiers 2 = .ok (.lconst 0, 1) := by decide +kernel
theorem dX5_costByTiers_3 : decode cX5_costByTiers 3 = .ok (.lstore 5, 2) := by decide +kernel
end
section
theorem dX5_costByTiers_5 : decode cX5_costByTiers 5 = .ok (.iconst 0, 1) := by decide +kernel
theorem dX5_costByTiers_6 : decode cX5_costByTiers 6 = .ok (.istore 7, 2) := by decide +kernel
theorem dX5_costByTiers_8 : decode cX5_costByTiers 8 = .ok (.iload 7, 2) := by decide +kernel
theorem dX5_costByTiers_10 : decode cX5_costByTiers 10 = .ok (.aload_n 0, 1) := by decide +kernel
theorem dX5_costByTiers_11 : decode cX5_costByTiers 11 = .ok (.getfield 22, 3) := by decide +kernel
theorem dX5_costByTiers_14 : decode cX5_costByTiers 14 = .ok (.if_icmp .ge 78, 3) := by decide +kernel
theorem dX5_costByTiers_17 : decode cX5_costByTiers 17 = .ok (.lload 5, 2) := by decide +kernel
theorem dX5_costByTiers_19 : decode cX5_costByTiers 19 = .ok (.lload_n 1, 1) := by decide +kernel
theorem dX5_costByTiers_20 : decode cX5_costByTiers 20 = .ok (.lcmp, 1) := by decide +kernel
theorem dX5_costByTiers_21 : decode cX5_costByTiers 21 = .ok (.ifCond .ge 71, 3) := by decide +kernel
theorem dX5_costByTiers_24 : decode cX5_costByTiers 24 = .ok (.iload 7, 2) := by decide +kernel
theorem dX5_costByTiers_26 : decode cX5_costByTiers 26 = .ok (.aload_n 0, 1) := by decide +kernel
theorem dX5_costByTiers_27 : decode cX5_costByTiers 27 = .ok (.getfield 22, 3) := by decide +kernel
theorem dX5_costByTiers_30 : decode cX5_costByTiers 30 = .ok (.iconst 1, 1) := by decide +kernel
theorem dX5_costByTiers_31 : decode cX5_costByTiers 31 = .ok (.isub, 1) := by decide +kernel
theorem dX5_costByTiers_32 : decode cX5_costByTiers 32 = .ok (.if_icmp .ne 7, 3) := by decide +kernel
theorem dX5_costByTiers_35 : decode cX5_costByTiers 35 = .ok (.lload_n 1, 1) := by decide +kernel
theorem dX5_costByTiers_36 : decode cX5_costByTiers 36 = .ok (.goto 14, 3) := by decide +kernel
theorem dX5_costByTiers_39 : decode cX5_costByTiers 39 = .ok (.lload_n 1, 1) := by decide +kernel
theorem dX5_costByTiers_40 : decode cX5_costByTiers 40 = .ok (.aload_n 0, 1) := by decide +kernel
theorem dX5_costByTiers_41 : decode cX5_costByTiers 41 = .ok (.getfield 9, 3) := by decide +kernel
theorem dX5_costByTiers_44 : decode cX5_costByTiers 44 = .ok (.iload 7, 2) := by decide +kernel
theorem dX5_costByTiers_46 : decode cX5_costByTiers 46 = .ok (.laload, 1) := by decide +kernel
theorem dX5_costByTiers_47 : decode cX5_costByTiers 47 = .ok (.invokestatic 49, 3) := by decide +kernel
theorem dX5_costByTiers_50 : decode cX5_costByTiers 50 = .ok (.lstore 8, 2) := by decide +kernel
theorem dX5_costByTiers_52 : decode cX5_costByTiers 52 = .ok (.lload_n 3, 1) := by decide +kernel
theorem dX5_costByTiers_53 : decode cX5_costByTiers 53 = .ok (.aload_n 0, 1) := by decide +kernel
theorem dX5_costByTiers_54 : decode cX5_costByTiers 54 = .ok (.lload 8, 2) := by decide +kernel
theorem dX5_costByTiers_56 : decode cX5_costByTiers 56 = .ok (.lload 5, 2) := by decide +kernel
theorem dX5_costByTiers_58 : decode cX5_costByTiers 58 = .ok (.lsub, 1) := by decide +kernel
theorem dX5_costByTiers_59 : decode cX5_costByTiers 59 = .ok (.invokevirtual 53, 3) := by decide +kernel
theorem dX5_costByTiers_62 : decode cX5_costByTiers 62 = .ok (.aload_n 0, 1) := by decide +kernel
theorem dX5_costByTiers_63 : decode cX5_costByTiers 63 = .ok (.getfield 15, 3) := by decide +kernel
theorem dX5_costByTiers_66 : decode cX5_costByTiers 66 = .ok (.iload 7, 2) := by decide +kernel
theorem dX5_costByTiers_68 : decode cX5_costByTiers 68 = .ok (.iaload, 1) := by decide +kernel
theorem dX5_costByTiers_69 : decode cX5_costByTiers 69 = .ok (.i2l, 1) := by decide +kernel
theorem dX5_costByTiers_70 : decode cX5_costByTiers 70 = .ok (.lmul, 1) := by decide +kernel
theorem dX5_costByTiers_71 : decode cX5_costByTiers 71 = .ok (.aload_n 0, 1) := by decide +kernel
theorem dX5_costByTiers_72 : decode cX5_costByTiers 72 = .ok (.getfield 19, 3) := by decide +kernel
theorem dX5_costByTiers_75 : decode cX5_costByTiers 75 = .ok (.iload 7, 2) := by decide +kernel
theorem dX5_costByTiers_77 : decode cX5_costByTiers 77 = .ok (.iaload, 1) := by decide +kernel
theorem dX5_costByTiers_78 : decode cX5_costByTiers 78 = .ok (.i2l, 1) := by decide +kernel
theorem dX5_costByTiers_79 : decode cX5_costByTiers 79 = .ok (.ladd, 1) := by decide +kernel
theorem dX5_costByTiers_80 : decode cX5_costByTiers 80 = .ok (.ladd, 1) := by decide +kernel
theorem dX5_costByTiers_81 : decode cX5_costByTiers 81 = .ok (.lstore_n 3, 1) := by decide +kernel
theorem dX5_costByTiers_82 : decode cX5_costByTiers 82 = .ok (.lload 8, 2) := by decide +kernel
theorem dX5_costByTiers_84 : decode cX5_costByTiers 84 = .ok (.lstore 5, 2) := by decide +kernel
theorem dX5_costByTiers_86 : decode cX5_costByTiers 86 = .ok (.iinc 7 1, 3) := by decide +kernel
theorem dX5_costByTiers_89 : decode cX5_costByTiers 89 = .ok (.goto (-81), 3) := by decide +kernel
theorem dX5_costByTiers_92 : decode cX5_costByTiers 92 = .ok (.lload_n 3, 1) := by decide +kernel
theorem dX5_costByTiers_93 : decode cX5_costByTiers 93 = .ok (.lreturn, 1) := by decide +kernel
theorem dX5_pricedParts_0 : decode cX5_pricedParts 0 = .ok (.aload_n 0, 1) := by decide +kernel
theorem dX5_pricedParts_1 : decode cX5_pricedParts 1 = .ok (.getfield 26, 3) := by decide +kernel
theorem dX5_pricedParts_4 : decode cX5_pricedParts 4 = .ok (.iconst 2, 1) := by decide +kernel
theorem dX5_pricedParts_5 : decode cX5_pricedParts 5 = .ok (.if_icmp .ne 11, 3) := by decide +kernel
theorem dX5_pricedParts_8 : decode cX5_pricedParts 8 = .ok (.aload_n 0, 1) := by decide +kernel
theorem dX5_pricedParts_9 : decode cX5_pricedParts 9 = .ok (.getfield 29, 3) := by decide +kernel
theorem dX5_pricedParts_12 : decode cX5_pricedParts 12 = .ok (.iconst 1, 1) := by decide +kernel
theorem dX5_pricedParts_13 : decode cX5_pricedParts 13 = .ok (.if_icmp .ge 5, 3) := by decide +kernel
theorem dX5_pricedParts_16 : decode cX5_pricedParts 16 = .ok (.lload_n 1, 1) := by decide +kernel
theorem dX5_pricedParts_17 : decode cX5_pricedParts 17 = .ok (.lreturn, 1) := by decide +kernel
theorem dX5_pricedParts_18 : decode cX5_pricedParts 18 = .ok (.lload_n 1, 1) := by decide +kernel
theorem dX5_pricedParts_19 : decode cX5_pricedParts 19 = .ok (.aload_n 0, 1) := by decide +kernel
theorem dX5_pricedParts_20 : decode cX5_pricedParts 20 = .ok (.getfield 29, 3) := by decide +kernel
theorem dX5_pricedParts_23 : decode cX5_pricedParts 23 = .ok (.i2l, 1) := by decide +kernel
theorem dX5_pricedParts_24 : decode cX5_pricedParts 24 = .ok (.ladd, 1) := by decide +kernel
theorem dX5_pricedParts_25 : decode cX5_pricedParts 25 = .ok (.lconst 1, 1) := by decide +kernel
theorem dX5_pricedParts_26 : decode cX5_pricedParts 26 = .ok (.lsub, 1) := by decide +kernel
theorem dX5_pricedParts_27 : decode cX5_pricedParts 27 = .ok (.aload_n 0, 1) := by decide +kernel
theorem dX5_pricedParts_28 : decode cX5_pricedParts 28 = .ok (.getfield 29, 3) := by decide +kernel
theorem dX5_pricedParts_31 : decode cX5_pricedParts 31 = .ok (.i2l, 1) := by decide +kernel
theorem dX5_pricedParts_32 : decode cX5_pricedParts 32 = .ok (.ldiv, 1) := by decide +kernel
theorem dX5_pricedParts_33 : decode cX5_pricedParts 33 = .ok (.lreturn, 1) := by decide +kernel
theorem dX5_copyFrom_0 : decode cX5_copyFrom 0 = .ok (.iconst 0, 1) := by decide +kernel
theorem dX5_copyFrom_1 : decode cX5_copyFrom 1 = .ok (.istore_n 2, 1) := by decide +kernel
theorem dX5_copyFrom_2 : decode cX5_copyFrom 2 = .ok (.iload_n 2, 1) := by decide +kernel
theorem dX5_copyFrom_3 : decode cX5_copyFrom 3 = .ok (.iconst 5, 1) := by decide +kernel
theorem dX5_copyFrom_4 : decode cX5_copyFrom 4 = .ok (.if_icmp .ge 45, 3) := by decide +kernel
theorem dX5_copyFrom_7 : decode cX5_copyFrom 7 = .ok (.aload_n 0, 1) := by decide +kernel
theorem dX5_copyFrom_8 : decode cX5_copyFrom 8 = .ok (.getfield 9, 3) := by decide +kernel
theorem dX5_copyFrom_11 : decode cX5_copyFrom 11 = .ok (.iload_n 2, 1) := by decide +kernel
theorem dX5_copyFrom_12 : decode cX5_copyFrom 12 = .ok (.aload_n 1, 1) := by decide +kernel
theorem dX5_copyFrom_13 : decode cX5_copyFrom 13 = .ok (.getfield 9, 3) := by decide +kernel
theorem dX5_copyFrom_16 : decode cX5_copyFrom 16 = .ok (.iload_n 2, 1) := by decide +kernel
theorem dX5_copyFrom_17 : decode cX5_copyFrom 17 = .ok (.laload, 1) := by decide +kernel
theorem dX5_copyFrom_18 : decode cX5_copyFrom 18 = .ok (.lastore, 1) := by decide +kernel
theorem dX5_copyFrom_19 : decode cX5_copyFrom 19 = .ok (.aload_n 0, 1) := by decide +kernel
theorem dX5_copyFrom_20 : decode cX5_copyFrom 20 = .ok (.getfield 15, 3) := by decide +kernel
theorem dX5_copyFrom_23 : decode cX5_copyFrom 23 = .ok (.iload_n 2, 1) := by decide +kernel
theorem dX5_copyFrom_24 : decode cX5_copyFrom 24 = .ok (.aload_n 1, 1) := by decide +kernel
theorem dX5_copyFrom_25 : decode cX5_copyFrom 25 = .ok (.getfield 15, 3) := by decide +kernel
theorem dX5_copyFrom_28 : decode cX5_copyFrom 28 = .ok (.iload_n 2, 1) := by decide +kernel
theorem dX5_copyFrom_29 : decode cX5_copyFrom 29 = .ok (.iaload, 1) := by decide +kernel
theorem dX5_copyFrom_30 : decode cX5_copyFrom 30 = .ok (.iastore, 1) := by decide +kernel
theorem dX5_copyFrom_31 : decode cX5_copyFrom 31 = .ok (.aload_n 0, 1) := by decide +kernel
theorem dX5_copyFrom_32 : decode cX5_copyFrom 32 = .ok (.getfield 19, 3) := by decide +kernel
theorem dX5_copyFrom_35 : decode cX5_copyFrom 35 = .ok (.iload_n 2, 1) := by decide +kernel
theorem dX5_copyFrom_36 : decode cX5_copyFrom 36 = .ok (.aload_n 1, 1) := by decide +kernel
theorem dX5_copyFrom_37 : decode cX5_copyFrom 37 = .ok (.getfield 19, 3) := by decide +kernel
theorem dX5_copyFrom_40 : decode cX5_copyFrom 40 = .ok (.iload_n 2, 1) := by decide +kernel
theorem dX5_copyFrom_41 : decode cX5_copyFrom 41 = .ok (.iaload, 1) := by decide +kernel
theorem dX5_copyFrom_42 : decode cX5_copyFrom 42 = .ok (.iastore, 1) := by decide +kernel
theorem dX5_copyFrom_43 : decode cX5_copyFrom 43 = .ok (.iinc 2 1, 3) := by decide +kernel
theorem dX5_copyFrom_46 : decode cX5_copyFrom 46 = .ok (.goto (-44), 3) := by decide +kernel
theorem dX5_copyFrom_49 : decode cX5_copyFrom 49 = .ok (.aload_n 0, 1) := by decide +kernel
theorem dX5_copyFrom_50 : decode cX5_copyFrom 50 = .ok (.aload_n 1, 1) := by decide +kernel
theorem dX5_copyFrom_51 : decode cX5_copyFrom 51 = .ok (.getfield 22, 3) := by decide +kernel
theorem dX5_copyFrom_54 : decode cX5_copyFrom 54 = .ok (.putfield 22, 3) := by decide +kernel
theorem dX5_copyFrom_57 : decode cX5_copyFrom 57 = .ok (.aload_n 0, 1) := by decide +kernel
theorem dX5_copyFrom_58 : decode cX5_copyFrom 58 = .ok (.aload_n 1, 1) := by decide +kernel
theorem dX5_copyFrom_59 : decode cX5_copyFrom 59 = .ok (.getfield 26, 3) := by decide +kernel
theorem dX5_copyFrom_62 : decode cX5_copyFrom 62 = .ok (.putfield 26, 3) := by decide +kernel
theorem dX5_copyFrom_65 : decode cX5_copyFrom 65 = .ok (.aload_n 0, 1) := by decide +kernel
theorem dX5_copyFrom_66 : decode cX5_copyFrom 66 = .ok (.aload_n 1, 1) := by decide +kernel
theorem dX5_copyFrom_67 : decode cX5_copyFrom 67 = .ok (.getfield 29, 3) := by decide +kernel
theorem dX5_copyFrom_70 : decode cX5_copyFrom 70 = .ok (.putfield 29, 3) := by decide +kernel
theorem dX5_copyFrom_73 : decode cX5_copyFrom 73 = .ok (.return_, 1) := by decide +kernel
theorem dX6_init_0 : decode cX6_init 0 = .ok (.aload_n 0, 1) := by decide +kernel
theorem dX6_init_1 : decode cX6_init 1 = .ok (.invokespecial 3, 3) := by decide +kernel
theorem dX6_init_4 : decode cX6_init 4 = .ok (.aload_n 0, 1) := by decide +kernel
theorem dX6_init_5 : decode cX6_init 5 = .ok (.iconst 4, 1) := by decide +kernel
theorem dX6_init_6 : decode cX6_init 6 = .ok (.anewarray 9, 3) := by decide +kernel
theorem dX6_init_9 : decode cX6_init 9 = .ok (.putfield 11, 3) := by decide +kernel
theorem dX6_init_12 : decode cX6_init 12 = .ok (.aload_n 0, 1) := by decide +kernel
theorem dX6_init_13 : decode cX6_init 13 = .ok (.iconst 4, 1) := by decide +kernel
theorem dX6_init_14 : decode cX6_init 14 = .ok (.anewarray 9, 3) := by decide +kernel
theorem dX6_init_17 : decode cX6_init 17 = .ok (.putfield 17, 3) := by decide +kernel
theorem dX6_init_20 : decode cX6_init 20 = .ok (.aload_n 0, 1) := by decide +kernel
theorem dX6_init_21 : decode cX6_init 21 = .ok (.iconst 4, 1) := by decide +kernel
theorem dX6_init_22 : decode cX6_init 22 = .ok (.newarray .long, 2) := by decide +kernel
theorem dX6_init_24 : decode cX6_init 24 = .ok (.putfield 20, 3) := by decide +kernel
theorem dX6_init_27 : decode cX6_init 27 = .ok (.aload_n 0, 1) := by decide +kernel
theorem dX6_init_28 : decode cX6_init 28 = .ok (.iconst 4, 1) := by decide +kernel
theorem dX6_init_29 : decode cX6_init 29 = .ok (.newarray .long, 2) := by decide +kernel
theorem dX6_init_31 : decode cX6_init 31 = .ok (.putfield 24, 3) := by decide +kernel
theorem dX6_init_34 : decode cX6_init 34 = .ok (.aload_n 0, 1) := by decide +kernel
theorem dX6_init_35 : decode cX6_init 35 = .ok (.new 27, 3) := by decide +kernel
theorem dX6_init_38 : decode cX6_init 38 = .ok (.dup, 1) := by decide +kernel
theorem dX6_init_39 : decode cX6_init 39 = .ok (.invokespecial 29, 3) := by decide +kernel
theorem dX6_init_42 : decode cX6_init 42 = .ok (.putfield 30, 3) := by decide +kernel
theorem dX6_init_45 : decode cX6_init 45 = .ok (.aload_n 0, 1) := by decide +kernel
theorem dX6_init_46 : decode cX6_init 46 = .ok (.iload_n 1, 1) := by decide +kernel
theorem dX6_init_47 : decode cX6_init 47 = .ok (.putfield 34, 3) := by decide +kernel
theorem dX6_init_50 : decode cX6_init 50 = .ok (.iconst 0, 1) := by decide +kernel
theorem dX6_init_51 : decode cX6_init 51 = .ok (.istore_n 2, 1) := by decide +kernel
theorem dX6_init_52 : decode cX6_init 52 = .ok (.iload_n 2, 1) := by decide +kernel
theorem dX6_init_53 : decode cX6_init 53 = .ok (.iconst 4, 1) := by decide +kernel
theorem dX6_init_54 : decode cX6_init 54 = .ok (.if_icmp .ge 35, 3) := by decide +kernel
theorem dX6_init_57 : decode cX6_init 57 = .ok (.aload_n 0, 1) := by decide +kernel
theorem dX6_init_58 : decode cX6_init 58 = .ok (.getfield 11, 3) := by decide +kernel
theorem dX6_init_61 : decode cX6_init 61 = .ok (.iload_n 2, 1) := by decide +kernel
theorem dX6_init_62 : decode cX6_init 62 = .ok (.new 9, 3) := by decide +kernel
theorem dX6_init_65 : decode cX6_init 65 = .ok (.dup, 1) := by decide +kernel
theorem dX6_init_66 : decode cX6_init 66 = .ok (.invokespecial 38, 3) := by decide +kernel
theorem dX6_init_69 : decode cX6_init 69 = .ok (.aastore, 1) := by decide +kernel
theorem dX6_init_70 : decode cX6_init 70 = .ok (.aload_n 0, 1) := by decide +kernel
theorem dX6_init_71 : decode cX6_init 71 = .ok (.getfield 17, 3) := by decide +kernel
theorem dX6_init_74 : decode cX6_init 74 = .ok (.iload_n 2, 1) := by decide +kernel
theorem dX6_init_75 : decode cX6_init 75 = .ok (.new 9, 3) := by decide +kernel
theorem dX6_init_78 : decode cX6_init 78 = .ok (.dup, 1) := by decide +kernel
theorem dX6_init_79 : decode cX6_init 79 = .ok (.invokespecial 38, 3) := by decide +kernel
theorem dX6_init_82 : decode cX6_init 82 = .ok (.aastore, 1) := by decide +kernel
theorem dX6_init_83 : decode cX6_init 83 = .ok (.iinc 2 1, 3) := by decide +kernel
theorem dX6_init_86 : decode cX6_init 86 = .ok (.goto (-34), 3) := by decide +kernel
theorem dX6_init_89 : decode cX6_init 89 = .ok (.return_, 1) := by decide +kernel
theorem dX6_adjust_0 : decode cX6_adjust 0 = .ok (.aload_n 0, 1) := by decide +kernel
theorem dX6_adjust_1 : decode cX6_adjust 1 = .ok (.getfield 17, 3) := by decide +kernel
theorem dX6_adjust_4 : decode cX6_adjust 4 = .ok (.iload_n 1, 1) := by decide +kernel
theorem dX6_adjust_5 : decode cX6_adjust 5 = .ok (.aaload, 1) := by decide +kernel
theorem dX6_adjust_6 : decode cX6_adjust 6 = .ok (.astore 5, 2) := by decide +kernel
theorem dX6_adjust_8 : decode cX6_adjust 8 = .ok (.aload_n 0, 1) := by decide +kernel
theorem dX6_adjust_9 : decode cX6_adjust 9 = .ok (.getfield 20, 3) := by decide +kernel
theorem dX6_adjust_12 : decode cX6_adjust 12 = .ok (.iload_n 1, 1) := by decide +kernel
theorem dX6_adjust_13 : decode cX6_adjust 13 = .ok (.dup2, 1) := by decide +kernel
theorem dX6_adjust_14 : decode cX6_adjust 14 = .ok (.laload, 1) := by decide +kernel
theorem dX6_adjust_15 : decode cX6_adjust 15 = .ok (.iload 4, 2) := by decide +kernel
theorem dX6_adjust_17 : decode cX6_adjust 17 = .ok (.i2l, 1) := by decide +kernel
theorem dX6_adjust_18 : decode cX6_adjust 18 = .ok (.ladd, 1) := by decide +kernel
theorem dX6_adjust_19 : decode cX6_adjust 19 = .ok (.lastore, 1) := by decide +kernel
theorem dX6_adjust_20 : decode cX6_adjust 20 = .ok (.aload_n 0, 1) := by decide +kernel
theorem dX6_adjust_21 : decode cX6_adjust 21 = .ok (.getfield 24, 3) := by decide +kernel
theorem dX6_adjust_24 : decode cX6_adjust 24 = .ok (.iload_n 1, 1) := by decide +kernel
theorem dX6_adjust_25 : decode cX6_adjust 25 = .ok (.dup2, 1) := by decide +kernel
theorem dX6_adjust_26 : decode cX6_adjust 26 = .ok (.laload, 1) := by decide +kernel
theorem dX6_adjust_27 : decode cX6_adjust 27 = .ok (.aload 5, 2) := by decide +kernel
theorem dX6_adjust_29 : decode cX6_adjust 29 = .ok (.lload_n 2, 1) := by decide +kernel
theorem dX6_adjust_30 : decode cX6_adjust 30 = .ok (.iload 4, 2) := by decide +kernel
theorem dX6_adjust_32 : decode cX6_adjust 32 = .ok (.i2l, 1) := by decide +kernel
theorem dX6_adjust_33 : decode cX6_adjust 33 = .ok (.ladd, 1) := by decide +kernel
theorem dX6_adjust_34 : decode cX6_adjust 34 = .ok (.invokevirtual 39, 3) := by decide +kernel
theorem dX6_adjust_37 : decode cX6_adjust 37 = .ok (.aload 5, 2) := by decide +kernel
theorem dX6_adjust_39 : decode cX6_adjust 39 = .ok (.lload_n 2, 1) := by decide +kernel
theorem dX6_adjust_40 : decode cX6_adjust 40 = .ok (.invokevirtual 39, 3) := by decide +kernel
theorem dX6_adjust_43 : decode cX6_adjust 43 = .ok (.lsub, 1) := by decide +kernel
theorem dX6_adjust_44 : decode cX6_adjust 44 = .ok (.ladd, 1) := by decide +kernel
theorem dX6_adjust_45 : decode cX6_adjust 45 = .ok (.lastore, 1) := by decide +kernel
theorem dX6_adjust_46 : decode cX6_adjust 46 = .ok (.return_, 1) := by decide +kernel
theorem dX6_billAdjustments_0 : decode cX6_billAdjustments 0 = .ok (.iconst 0, 1) := by decide +kernel
theorem dX6_billAdjustments_1 : decode cX6_billAdjustments 1 = .ok (.istore_n 2, 1) := by decide +kernel
theorem dX6_billAdjustments_2 : decode cX6_billAdjustments 2 = .ok (.iload_n 2, 1) := by decide +kernel
theorem dX6_billAdjustments_3 : decode cX6_billAdjustments 3 = .ok (.iconst 4, 1) := by decide +kernel
theorem dX6_billAdjustments_4 : decode cX6_billAdjustments 4 = .ok (.if_icmp .ge 38, 3) := by decide +kernel
theorem dX6_billAdjustments_7 : decode cX6_billAdjustments 7 = .ok (.aload_n 0, 1) := by decide +kernel
theorem dX6_billAdjustments_8 : decode cX6_billAdjustments 8 = .ok (.getfield 20, 3) := by decide +kernel
theorem dX6_billAdjustments_11 : decode cX6_billAdjustments 11 = .ok (.iload_n 2, 1) := by decide +kernel
theorem dX6_billAdjustments_12 : decode cX6_billAdjustments 12 = .ok (.laload, 1) := by decide +kernel
theorem dX6_billAdjustments_13 : decode cX6_billAdjustments 13 = .ok (.lconst 0, 1) := by decide +kernel
theorem dX6_billAdjustments_14 : decode cX6_billAdjustments 14 = .ok (.lcmp, 1) := by decide +kernel
theorem dX6_billAdjustments_15 : decode cX6_billAdjustments 15 = .ok (.ifCond .le 21, 3) := by decide +kernel
theorem dX6_billAdjustments_18 : decode cX6_billAdjustments 18 = .ok (.aload_n 1, 1) := by decide +kernel
theorem dX6_billAdjustments_19 : decode cX6_billAdjustments 19 = .ok (.iconst 1, 1) := by decide +kernel
theorem dX6_billAdjustments_20 : decode cX6_billAdjustments 20 = .ok (.iload_n 2, 1) := by decide +kernel
theorem dX6_billAdjustments_21 : decode cX6_billAdjustments 21 = .ok (.aload_n 0, 1) := by decide +kernel
theorem dX6_billAdjustments_22 : decode cX6_billAdjustments 22 = .ok (.getfield 20, 3) := by decide +kernel
theorem dX6_billAdjustments_25 : decode cX6_billAdjustments 25 = .ok (.iload_n 2, 1) := by decide +kernel
theorem dX6_billAdjustments_26 : decode cX6_billAdjustments 26 = .ok (.laload, 1) := by decide +kernel
theorem dX6_billAdjustments_27 : decode cX6_billAdjustments 27 = .ok (.aload_n 0, 1) := by decide +kernel
theorem dX6_billAdjustments_28 : decode cX6_billAdjustments 28 = .ok (.getfield 24, 3) := by decide +kernel
theorem dX6_billAdjustments_31 : decode cX6_billAdjustments 31 = .ok (.iload_n 2, 1) := by decide +kernel
theorem dX6_billAdjustments_32 : decode cX6_billAdjustments 32 = .ok (.laload, 1) := by decide +kernel
theorem dX6_billAdjustments_33 : decode cX6_billAdjustments 33 = .ok (.invokevirtual 43, 3) := by decide +kernel
theorem dX6_billAdjustments_36 : decode cX6_billAdjustments 36 = .ok (.iinc 2 1, 3) := by decide +kernel
theorem dX6_billAdjustments_39 : decode cX6_billAdjustments 39 = .ok (.goto (-37), 3) := by decide +kernel
theorem dX6_billAdjustments_42 : decode cX6_billAdjustments 42 = .ok (.return_, 1) := by decide +kernel
theorem dX6_billTerms_0 : decode cX6_billTerms 0 = .ok (.aload_n 1, 1) := by decide +kernel
theorem dX6_billTerms_1 : decode cX6_billTerms 1 = .ok (.iconst 2, 1) := by decide +kernel
theorem dX6_billTerms_2 : decode cX6_billTerms 2 = .ok (.aload_n 1, 1) := by decide +kernel
theorem dX6_billTerms_3 : decode cX6_billTerms 3 = .ok (.aload_n 0, 1) := by decide +kernel
theorem dX6_billTerms_4 : decode cX6_billTerms 4 = .ok (.getfield 49, 3) := by decide +kernel
theorem dX6_billTerms_7 : decode cX6_billTerms 7 = .ok (.invokevirtual 52, 3) := by decide +kernel
theorem dX6_billTerms_10 : decode cX6_billTerms 10 = .ok (.lneg, 1) := by decide +kernel
theorem dX6_billTerms_11 : decode cX6_billTerms 11 = .ok (.invokevirtual 56, 3) := by decide +kernel
theorem dX6_billTerms_14 : decode cX6_billTerms 14 = .ok (.aload_n 1, 1) := by decide +kernel
theorem dX6_billTerms_15 : decode cX6_billTerms 15 = .ok (.iconst 3, 1) := by decide +kernel
theorem dX6_billTerms_16 : decode cX6_billTerms 16 = .ok (.aload_n 0, 1) := by decide +kernel
theorem dX6_billTerms_17 : decode cX6_billTerms 17 = .ok (.getfield 60, 3) := by decide +kernel
theorem dX6_billTerms_20 : decode cX6_billTerms 20 = .ok (.aload_n 1, 1) := by decide +kernel
theorem dX6_billTerms_21 : decode cX6_billTerms 21 = .ok (.getfield 64, 3) := by decide +kernel
theorem dX6_billTerms_24 : decode cX6_billTerms 24 = .ok (.lsub, 1) := by decide +kernel
theorem dX6_billTerms_25 : decode cX6_billTerms 25 = .ok (.lconst 0, 1) := by decide +kernel
theorem dX6_billTerms_26 : decode cX6_billTerms 26 = .ok (.invokestatic 67, 3) := by decide +kernel
theorem dX6_billTerms_29 : decode cX6_billTerms 29 = .ok (.invokevirtual 56, 3) := by decide +kernel
theorem dX6_billTerms_32 : decode cX6_billTerms 32 = .ok (.aload_n 1, 1) := by decide +kernel
theorem dX6_billTerms_33 : decode cX6_billTerms 33 = .ok (.iconst 4, 1) := by decide +kernel
theorem dX6_billTerms_34 : decode cX6_billTerms 34 = .ok (.aload_n 1, 1) := by decide +kernel
theorem dX6_billTerms_35 : decode cX6_billTerms 35 = .ok (.aload_n 0, 1) := by decide +kernel
theorem dX6_billTerms_36 : decode cX6_billTerms 36 = .ok (.getfield 73, 3) := by decide +kernel
theorem dX6_billTerms_39 : decode cX6_billTerms 39 = .ok (.invokevirtual 52, 3) := by decide +kernel
theorem dX6_billTerms_42 : decode cX6_billTerms 42 = .ok (.invokevirtual 56, 3) := by decide +kernel
theorem dX6_billTerms_45 : decode cX6_billTerms 45 = .ok (.return_, 1) := by decide +kernel
theorem dX6_endPeriod_0 : decode cX6_endPeriod 0 = .ok (.iconst 0, 1) := by decide +kernel
theorem dX6_endPeriod_1 : decode cX6_endPeriod 1 = .ok (.istore_n 1, 1) := by decide +kernel
theorem dX6_endPeriod_2 : decode cX6_endPeriod 2 = .ok (.iload_n 1, 1) := by decide +kernel
theorem dX6_endPeriod_3 : decode cX6_endPeriod 3 = .ok (.iconst 4, 1) := by decide +kernel
theorem dX6_endPeriod_4 : decode cX6_endPeriod 4 = .ok (.if_icmp .ge 38, 3) := by decide +kernel
theorem dX6_endPeriod_7 : decode cX6_endPeriod 7 = .ok (.aload_n 0, 1) := by decide +kernel
theorem dX6_endPeriod_8 : decode cX6_endPeriod 8 = .ok (.getfield 20, 3) := by decide +kernel
theorem dX6_endPeriod_11 : decode cX6_endPeriod 11 = .ok (.iload_n 1, 1) := by decide +kernel
theorem dX6_endPeriod_12 : decode cX6_endPeriod 12 = .ok (.lconst 0, 1) := by decide +kernel
theorem dX6_endPeriod_13 : decode cX6_endPeriod 13 = .ok (.lastore, 1) := by decide +kernel
theorem dX6_endPeriod_14 : decode cX6_endPeriod 14 = .ok (.aload_n 0, 1) := by decide +kernel
theorem dX6_endPeriod_15 : decode cX6_endPeriod 15 = .ok (.getfield 24, 3) := by decide +kernel
theorem dX6_endPeriod_18 : decode cX6_endPeriod 18 = .ok (.iload_n 1, 1) := by decide +kernel
theorem dX6_endPeriod_19 : decode cX6_endPeriod 19 = .ok (.lconst 0, 1) := by decide +kernel
theorem dX6_endPeriod_20 : decode cX6_endPeriod 20 = .ok (.lastore, 1) := by decide +kernel
theorem dX6_endPeriod_21 : decode cX6_endPeriod 21 = .ok (.aload_n 0, 1) := by decide +kernel
theorem dX6_endPeriod_22 : decode cX6_endPeriod 22 = .ok (.getfield 17, 3) := by decide +kernel
theorem dX6_endPeriod_25 : decode cX6_endPeriod 25 = .ok (.iload_n 1, 1) := by decide +kernel
theorem dX6_endPeriod_26 : decode cX6_endPeriod 26 = .ok (.aaload, 1) := by decide +kernel
theorem dX6_endPeriod_27 : decode cX6_endPeriod 27 = .ok (.aload_n 0, 1) := by decide +kernel
theorem dX6_endPeriod_28 : decode cX6_endPeriod 28 = .ok (.getfield 11, 3) := by decide +kernel
theorem dX6_endPeriod_31 : decode cX6_endPeriod 31 = .ok (.iload_n 1, 1) := by decide +kernel
theorem dX6_endPeriod_32 : decode cX6_endPeriod 32 = .ok (.aaload, 1) := by decide +kernel
theorem dX6_endPeriod_33 : decode cX6_endPeriod 33 = .ok (.invokevirtual 76, 3) := by decide +kernel
theorem dX6_endPeriod_36 : decode cX6_endPeriod 36 = .ok (.iinc 1 1, 3) := by decide +kernel
theorem dX6_endPeriod_39 : decode cX6_endPeriod 39 = .ok (.goto (-37), 3) := by decide +kernel
theorem dX6_endPeriod_42 : decode cX6_endPeriod 42 = .ok (.aload_n 0, 1) := by decide +kernel
theorem dX6_endPeriod_43 : decode cX6_endPeriod 43 = .ok (.getfield 30, 3) := by decide +kernel
theorem dX6_endPeriod_46 : decode cX6_endPeriod 46 = .ok (.aload_n 0, 1) := by decide +kernel
theorem dX6_endPeriod_47 : decode cX6_endPeriod 47 = .ok (.getfield 80, 3) := by decide +kernel
theorem dX6_endPeriod_50 : decode cX6_endPeriod 50 = .ok (.invokevirtual 83, 3) := by decide +kernel
theorem dX6_endPeriod_53 : decode cX6_endPeriod 53 = .ok (.aload_n 0, 1) := by decide +kernel
theorem dX6_endPeriod_54 : decode cX6_endPeriod 54 = .ok (.dup, 1) := by decide +kernel
theorem dX6_endPeriod_55 : decode cX6_endPeriod 55 = .ok (.getfield 80, 3) := by decide +kernel
theorem dX6_endPeriod_58 : decode cX6_endPeriod 58 = .ok (.iconst 1, 1) := by decide +kernel
theorem dX6_endPeriod_59 : decode cX6_endPeriod 59 = .ok (.iadd, 1) := by decide +kernel
theorem dX6_endPeriod_60 : decode cX6_endPeriod 60 = .ok (.putfield 80, 3) := by decide +kernel
theorem dX6_endPeriod_63 : decode cX6_endPeriod 63 = .ok (.return_, 1) := by decide +kernel
theorem dX7_init_0 : decode cX7_init 0 = .ok (.aload_n 0, 1) := by decide +kernel
theorem dX7_init_1 : decode cX7_init 1 = .ok (.invokespecial 3, 3) := by decide +kernel
theorem dX7_init_4 : decode cX7_init 4 = .ok (.aload_n 0, 1) := by decide +kernel
theorem dX7_init_5 : decode cX7_init 5 = .ok (.bipush 6, 2) := by decide +kernel
theorem dX7_init_7 : decode cX7_init 7 = .ok (.anewarray 9, 3) := by decide +kernel
theorem dX7_init_10 : decode cX7_init 10 = .ok (.putfield 11, 3) := by decide +kernel
theorem dX7_init_13 : decode cX7_init 13 = .ok (.aload_n 0, 1) := by decide +kernel
theorem dX7_init_14 : decode cX7_init 14 = .ok (.bipush 24, 2) := by decide +kernel
theorem dX7_init_16 : decode cX7_init 16 = .ok (.anewarray 15, 3) := by decide +kernel
theorem dX7_init_19 : decode cX7_init 19 = .ok (.putfield 17, 3) := by decide +kernel
theorem dX7_init_22 : decode cX7_init 22 = .ok (.aload_n 0, 1) := by decide +kernel
theorem dX7_init_23 : decode cX7_init 23 = .ok (.sipush 200, 3) := by decide +kernel
theorem dX7_init_26 : decode cX7_init 26 = .ok (.anewarray 21, 3) := by decide +kernel
theorem dX7_init_29 : decode cX7_init 29 = .ok (.putfield 23, 3) := by decide +kernel
theorem dX7_init_32 : decode cX7_init 32 = .ok (.aload_n 0, 1) := by decide +kernel
theorem dX7_init_33 : decode cX7_init 33 = .ok (.bipush 60, 2) := by decide +kernel
theorem dX7_init_35 : decode cX7_init 35 = .ok (.anewarray 27, 3) := by decide +kernel
theorem dX7_init_38 : decode cX7_init 38 = .ok (.putfield 29, 3) := by decide +kernel
theorem dX7_init_41 : decode cX7_init 41 = .ok (.aload_n 0, 1) := by decide +kernel
theorem dX7_init_42 : decode cX7_init 42 = .ok (.new 33, 3) := by decide +kernel
theorem dX7_init_45 : decode cX7_init 45 = .ok (.dup, 1) := by decide +kernel
theorem dX7_init_46 : decode cX7_init 46 = .ok (.invokespecial 35, 3) := by decide +kernel
theorem dX7_init_49 : decode cX7_init 49 = .ok (.putfield 36, 3) := by decide +kernel
theorem dX7_init_52 : decode cX7_init 52 = .ok (.iconst 0, 1) := by decide +kernel
theorem dX7_init_53 : decode cX7_init 53 = .ok (.istore_n 1, 1) := by decide +kernel
theorem dX7_init_54 : decode cX7_init 54 = .ok (.iload_n 1, 1) := by decide +kernel
theorem dX7_init_55 : decode cX7_init 55 = .ok (.bipush 6, 2) := by decide +kernel
theorem dX7_init_57 : decode cX7_init 57 = .ok (.if_icmp .ge 23, 3) := by decide +kernel
theorem dX7_init_60 : decode cX7_init 60 = .ok (.aload_n 0, 1) := by decide +kernel
theorem dX7_init_61 : decode cX7_init 61 = .ok (.getfield 11, 3) := by decide +kernel
theorem dX7_init_64 : decode cX7_init 64 = .ok (.iload_n 1, 1) := by decide +kernel
theorem dX7_init_65 : decode cX7_init 65 = .ok (.new 9, 3) := by decide +kernel
theorem dX7_init_68 : decode cX7_init 68 = .ok (.dup, 1) := by decide +kernel
theorem dX7_init_69 : decode cX7_init 69 = .ok (.iload_n 1, 1) := by decide +kernel
theorem dX7_init_70 : decode cX7_init 70 = .ok (.invokespecial 40, 3) := by decide +kernel
theorem dX7_init_73 : decode cX7_init 73 = .ok (.aastore, 1) := by decide +kernel
theorem dX7_init_74 : decode cX7_init 74 = .ok (.iinc 1 1, 3) := by decide +kernel
theorem dX7_init_77 : decode cX7_init 77 = .ok (.goto (-23), 3) := by decide +kernel
theorem dX7_init_80 : decode cX7_init 80 = .ok (.return_, 1) := by decide +kernel
theorem dX7_account_0 : decode cX7_account 0 = .ok (.aload_n 0, 1) := by decide +kernel
theorem dX7_account_1 : decode cX7_account 1 = .ok (.iload_n 1, 1) := by decide +kernel
theorem dX7_account_2 : decode cX7_account 2 = .ok (.invokevirtual 43, 3) := by decide +kernel
theorem dX7_account_5 : decode cX7_account 5 = .ok (.astore_n 3, 1) := by decide +kernel
theorem dX7_account_6 : decode cX7_account 6 = .ok (.aload_n 0, 1) := by decide +kernel
theorem dX7_account_7 : decode cX7_account 7 = .ok (.iload_n 2, 1) := by decide +kernel
theorem dX7_account_8 : decode cX7_account 8 = .ok (.invokevirtual 47, 3) := by decide +kernel
theorem dX7_account_11 : decode cX7_account 11 = .ok (.astore 4, 2) := by decide +kernel
theorem dX7_account_13 : decode cX7_account 13 = .ok (.aload_n 3, 1) := by decide +kernel
theorem dX7_account_14 : decode cX7_account 14 = .ok (.ifnull 13, 3) := by decide +kernel
theorem dX7_account_17 : decode cX7_account 17 = .ok (.aload 4, 2) := by decide +kernel
theorem dX7_account_19 : decode cX7_account 19 = .ok (.ifnonnull 11, 3) := by decide +kernel
theorem dX7_account_22 : decode cX7_account 22 = .ok (.iload_n 2, 1) := by decide +kernel
theorem dX7_account_23 : decode cX7_account 23 = .ok (.iconst (-1), 1) := by decide +kernel
theorem dX7_account_24 : decode cX7_account 24 = .ok (.if_icmp .eq 6, 3) := by decide +kernel
theorem dX7_account_27 : decode cX7_account 27 = .ok (.bipush (-2), 2) := by decide +kernel
theorem dX7_account_29 : decode cX7_account 29 = .ok (.ireturn, 1) := by decide +kernel
theorem dX7_account_30 : decode cX7_account 30 = .ok (.aload 4, 2) := by decide +kernel
theorem dX7_account_32 : decode cX7_account 32 = .ok (.ifnull 18, 3) := by decide +kernel
theorem dX7_account_35 : decode cX7_account 35 = .ok (.aload 4, 2) := by decide +kernel
theorem dX7_account_37 : decode cX7_account 37 = .ok (.getfield 51, 3) := by decide +kernel
theorem dX7_account_40 : decode cX7_account 40 = .ok (.getfield 55, 3) := by decide +kernel
theorem dX7_account_43 : decode cX7_account 43 = .ok (.iload_n 1, 1) := by decide +kernel
theorem dX7_account_44 : decode cX7_account 44 = .ok (.if_icmp .eq 6, 3) := by decide +kernel
theorem dX7_account_47 : decode cX7_account 47 = .ok (.bipush (-2), 2) := by decide +kernel
theorem dX7_account_49 : decode cX7_account 49 = .ok (.ireturn, 1) := by decide +kernel
theorem dX7_account_50 : decode cX7_account 50 = .ok (.aload_n 0, 1) := by decide +kernel
theorem dX7_account_51 : decode cX7_account 51 = .ok (.getfield 59, 3) := by decide +kernel
theorem dX7_account_54 : decode cX7_account 54 = .ok (.bipush 24, 2) := by decide +kernel
theorem dX7_account_56 : decode cX7_account 56 = .ok (.if_icmp .lt 6, 3) := by decide +kernel
theorem dX7_account_59 : decode cX7_account 59 = .ok (.bipush (-3), 2) := by decide +kernel
theorem dX7_account_61 : decode cX7_account 61 = .ok (.ireturn, 1) := by decide +kernel
theorem dX7_account_62 : decode cX7_account 62 = .ok (.aload_n 0, 1) := by decide +kernel
theorem dX7_account_63 : decode cX7_account 63 = .ok (.getfield 17, 3) := by decide +kernel
theorem dX7_account_66 : decode cX7_account 66 = .ok (.aload_n 0, 1) := by decide +kernel
theorem dX7_account_67 : decode cX7_account 67 = .ok (.getfield 59, 3) := by decide +kernel
theorem dX7_account_70 : decode cX7_account 70 = .ok (.new 15, 3) := by decide +kernel
theorem dX7_account_73 : decode cX7_account 73 = .ok (.dup, 1) := by decide +kernel
theorem dX7_account_74 : decode cX7_account 74 = .ok (.aload_n 0, 1) := by decide +kernel
theorem dX7_account_75 : decode cX7_account 75 = .ok (.getfield 59, 3) := by decide +kernel
theorem dX7_account_78 : decode cX7_account 78 = .ok (.aload_n 3, 1) := by decide +kernel
theorem dX7_account_79 : decode cX7_account 79 = .ok (.aload 4, 2) := by decide +kernel
theorem dX7_account_81 : decode cX7_account 81 = .ok (.invokespecial 62, 3) := by decide +kernel
theorem dX7_account_84 : decode cX7_account 84 = .ok (.aastore, 1) := by decide +kernel
theorem dX7_account_85 : decode cX7_account 85 = .ok (.aload_n 0, 1) := by decide +kernel
theorem dX7_account_86 : decode cX7_account 86 = .ok (.dup, 1) := by decide +kernel
theorem dX7_account_87 : decode cX7_account 87 = .ok (.getfield 59, 3) := by decide +kernel
theorem dX7_account_90 : decode cX7_account 90 = .ok (.iconst 1, 1) := by decide +kernel
theorem dX7_account_91 : decode cX7_account 91 = .ok (.iadd, 1) := by decide +kernel
theorem dX7_account_92 : decode cX7_account 92 = .ok (.putfield 59, 3) := by decide +kernel
theorem dX7_account_95 : decode cX7_account 95 = .ok (.aload_n 0, 1) := by decide +kernel
theorem dX7_account_96 : decode cX7_account 96 = .ok (.getfield 59, 3) := by decide +kernel
theorem dX7_account_99 : decode cX7_account 99 = .ok (.iconst 1, 1) := by decide +kernel
theorem dX7_account_100 : decode cX7_account 100 = .ok (.isub, 1) := by decide +kernel
theorem dX7_account_101 : decode cX7_account 101 = .ok (.ireturn, 1) := by decide +kernel
theorem dX7_tick_0 : decode cX7_tick 0 = .ok (.iload_n 1, 1) := by decide +kernel
theorem dX7_tick_1 : decode cX7_tick 1 = .ok (.iconst 1, 1) := by decide +kernel
theorem dX7_tick_2 : decode cX7_tick 2 = .ok (.if_icmp .lt 10, 3) := by decide +kernel
theorem dX7_tick_5 : decode cX7_tick 5 = .ok (.iload_n 1, 1) := by decide +kernel
theorem dX7_tick_6 : decode cX7_tick 6 = .ok (.sipush 10000, 3) := by decide +kernel
theorem dX7_tick_9 : decode cX7_tick 9 = .ok (.if_icmp .le 6, 3) := by decide +kernel
theorem dX7_tick_12 : decode cX7_tick 12 = .ok (.bipush (-2), 2) := by decide +kernel
theorem dX7_tick_14 : decode cX7_tick 14 = .ok (.ireturn, 1) := by decide +kernel
theorem dX7_tick_15 : decode cX7_tick 15 = .ok (.aload_n 0, 1) := by decide +kernel
theorem dX7_tick_16 : decode cX7_tick 16 = .ok (.getfield 65, 3) := by decide +kernel
theorem dX7_tick_19 : decode cX7_tick 19 = .ok (.iload_n 1, 1) := by decide +kernel
theorem dX7_tick_20 : decode cX7_tick 20 = .ok (.iadd, 1) := by decide +kernel
theorem dX7_tick_21 : decode cX7_tick 21 = .ok (.ldc 68, 2) := by decide +kernel
theorem dX7_tick_23 : decode cX7_tick 23 = .ok (.if_icmp .le 6, 3) := by decide +kernel
theorem dX7_tick_26 : decode cX7_tick 26 = .ok (.bipush (-3), 2) := by decide +kernel
theorem dX7_tick_28 : decode cX7_tick 28 = .ok (.ireturn, 1) := by decide +kernel
theorem dX7_tick_29 : decode cX7_tick 29 = .ok (.aload_n 0, 1) := by decide +kernel
theorem dX7_tick_30 : decode cX7_tick 30 = .ok (.dup, 1) := by decide +kernel
theorem dX7_tick_31 : decode cX7_tick 31 = .ok (.getfield 65, 3) := by decide +kernel
theorem dX7_tick_34 : decode cX7_tick 34 = .ok (.iload_n 1, 1) := by decide +kernel
theorem dX7_tick_35 : decode cX7_tick 35 = .ok (.iadd, 1) := by decide +kernel
theorem dX7_tick_36 : decode cX7_tick 36 = .ok (.putfield 65, 3) := by decide +kernel
theorem dX7_tick_39 : decode cX7_tick 39 = .ok (.aload_n 0, 1) := by decide +kernel
theorem dX7_tick_40 : decode cX7_tick 40 = .ok (.getfield 36, 3) := by decide +kernel
theorem dX7_tick_43 : decode cX7_tick 43 = .ok (.aload_n 0, 1) := by decide +kernel
theorem dX7_tick_44 : decode cX7_tick 44 = .ok (.getfield 65, 3) := by decide +kernel
theorem dX7_tick_47 : decode cX7_tick 47 = .ok (.invokevirtual 69, 3) := by decide +kernel
theorem dX7_tick_50 : decode cX7_tick 50 = .ok (.aload_n 0, 1) := by decide +kernel
theorem dX7_tick_51 : decode cX7_tick 51 = .ok (.invokevirtual 72, 3) := by decide +kernel
theorem dX7_tick_54 : decode cX7_tick 54 = .ok (.aload_n 0, 1) := by decide +kernel
theorem dX7_tick_55 : decode cX7_tick 55 = .ok (.getfield 65, 3) := by decide +kernel
theorem dX7_tick_58 : decode cX7_tick 58 = .ok (.ireturn, 1) := by decide +kernel
theorem dX7_event_0 : decode cX7_event 0 = .ok (.aload_n 0, 1) := by decide +kernel
theorem dX7_event_1 : decode cX7_event 1 = .ok (.iload_n 3, 1) := by decide +kernel
theorem dX7_event_2 : decode cX7_event 2 = .ok (.invokevirtual 47, 3) := by decide +kernel
theorem dX7_event_5 : decode cX7_event 5 = .ok (.astore 7, 2) := by decide +kernel
theorem dX7_event_7 : decode cX7_event 7 = .ok (.aload 7, 2) := by decide +kernel
theorem dX7_event_9 : decode cX7_event 9 = .ok (.ifnull 24, 3) := by decide +kernel
theorem dX7_event_12 : decode cX7_event 12 = .ok (.iload 4, 2) := by decide +kernel
theorem dX7_event_14 : decode cX7_event 14 = .ok (.invokestatic 75, 3) := by decide +kernel
theorem dX7_event_17 : decode cX7_event 17 = .ok (.ifCond .eq 16, 3) := by decide +kernel
theorem dX7_event_20 : decode cX7_event 20 = .ok (.iload 5, 2) := by decide +kernel
theorem dX7_event_22 : decode cX7_event 22 = .ok (.invokestatic 79, 3) := by decide +kernel
theorem dX7_event_25 : decode cX7_event 25 = .ok (.ifCond .eq 8, 3) := by decide +kernel
theorem dX7_event_28 : decode cX7_event 28 = .ok (.iload 6, 2) := by decide +kernel
theorem dX7_event_30 : decode cX7_event 30 = .ok (.ifCond .ge 6, 3) := by decide +kernel
theorem dX7_event_33 : decode cX7_event 33 = .ok (.bipush (-2), 2) := by decide +kernel
theorem dX7_event_35 : decode cX7_event 35 = .ok (.ireturn, 1) := by decide +kernel
theorem dX7_event_36 : decode cX7_event 36 = .ok (.iload 6, 2) := by decide +kernel
theorem dX7_event_38 : decode cX7_event 38 = .ok (.aload_n 0, 1) := by decide +kernel
theorem dX7_event_39 : decode cX7_event 39 = .ok (.getfield 65, 3) := by decide +kernel
theorem dX7_event_42 : decode cX7_event 42 = .ok (.if_icmp .le 6, 3) := by decide +kernel
theorem dX7_event_45 : decode cX7_event 45 = .ok (.bipush (-4), 2) := by decide +kernel
theorem dX7_event_47 : decode cX7_event 47 = .ok (.ireturn, 1) := by decide +kernel
theorem dX7_event_48 : decode cX7_event 48 = .ok (.aload_n 0, 1) := by decide +kernel
theorem dX7_event_49 : decode cX7_event 49 = .ok (.getfield 65, 3) := by decide +kernel
theorem dX7_event_52 : decode cX7_event 52 = .ok (.iload 6, 2) := by decide +kernel
theorem dX7_event_54 : decode cX7_event 54 = .ok (.isub, 1) := by decide +kernel
theorem dX7_event_55 : decode cX7_event 55 = .ok (.sipush 500, 3) := by decide +kernel
theorem dX7_event_58 : decode cX7_event 58 = .ok (.if_icmp .le 6, 3) := by decide +kernel
theorem dX7_event_61 : decode cX7_event 61 = .ok (.bipush (-5), 2) := by decide +kernel
theorem dX7_event_63 : decode cX7_event 63 = .ok (.ireturn, 1) := by decide +kernel
theorem dX7_event_64 : decode cX7_event 64 = .ok (.aload_n 0, 1) := by decide +kernel
theorem dX7_event_65 : decode cX7_event 65 = .ok (.getfield 36, 3) := by decide +kernel
theorem dX7_event_68 : decode cX7_event 68 = .ok (.aload 7, 2) := by decide +kernel
theorem dX7_event_70 : decode cX7_event 70 = .ok (.getfield 51, 3) := by decide +kernel
theorem dX7_event_73 : decode cX7_event 73 = .ok (.getfield 55, 3) := by decide +kernel
theorem dX7_event_76 : decode cX7_event 76 = .ok (.lload_n 1, 1) := by decide +kernel
theorem dX7_event_77 : decode cX7_event 77 = .ok (.invokevirtual 82, 3) := by decide +kernel
theorem dX7_event_80 : decode cX7_event 80 = .ok (.ifCond .eq 6, 3) := by decide +kernel
theorem dX7_event_83 : decode cX7_event 83 = .ok (.bipush (-6), 2) := by decide +kernel
theorem dX7_event_85 : decode cX7_event 85 = .ok (.ireturn, 1) := by decide +kernel
theorem dX7_event_86 : decode cX7_event 86 = .ok (.aload_n 0, 1) := by decide +kernel
theorem dX7_event_87 : decode cX7_event 87 = .ok (.getfield 36, 3) := by decide +kernel
theorem dX7_event_90 : decode cX7_event 90 = .ok (.aload 7, 2) := by decide +kernel
theorem dX7_event_92 : decode cX7_event 92 = .ok (.getfield 51, 3) := by decide +kernel
theorem dX7_event_95 : decode cX7_event 95 = .ok (.getfield 55, 3) := by decide +kernel
theorem dX7_event_98 : decode cX7_event 98 = .ok (.lload_n 1, 1) := by decide +kernel
theorem dX7_event_99 : decode cX7_event 99 = .ok (.iload 6, 2) := by decide +kernel
theorem dX7_event_101 : decode cX7_event 101 = .ok (.invokevirtual 86, 3) := by decide +kernel
theorem dX7_event_104 : decode cX7_event 104 = .ok (.ifCond .ne 6, 3) := by decide +kernel
theorem dX7_event_107 : decode cX7_event 107 = .ok (.bipush (-3), 2) := by decide +kernel
theorem dX7_event_109 : decode cX7_event 109 = .ok (.ireturn, 1) := by decide +kernel
theorem dX7_event_110 : decode cX7_event 110 = .ok (.aload_n 0, 1) := by decide +kernel
theorem dX7_event_111 : decode cX7_event 111 = .ok (.aload 7, 2) := by decide +kernel
theorem dX7_event_113 : decode cX7_event 113 = .ok (.iload 4, 2) := by decide +kernel
theorem dX7_event_115 : decode cX7_event 115 = .ok (.iload 5, 2) := by decide +kernel
theorem dX7_event_117 : decode cX7_event 117 = .ok (.iload 6, 2) := by decide +kernel
theorem dX7_event_119 : decode cX7_event 119 = .ok (.sipush 1000, 3) := by decide +kernel
theorem dX7_event_122 : decode cX7_event 122 = .ok (.idiv, 1) := by decide +kernel
theorem dX7_event_123 : decode cX7_event 123 = .ok (.invokevirtual 90, 3) := by decide +kernel
theorem dX7_event_126 : decode cX7_event 126 = .ok (.ireturn, 1) := by decide +kernel
theorem dX7_limit_0 : decode cX7_limit 0 = .ok (.aload_n 0, 1) := by decide +kernel
theorem dX7_limit_1 : decode cX7_limit 1 = .ok (.iload_n 1, 1) := by decide +kernel
theorem dX7_limit_2 : decode cX7_limit 2 = .ok (.invokevirtual 47, 3) := by decide +kernel
theorem dX7_limit_5 : decode cX7_limit 5 = .ok (.astore 4, 2) := by decide +kernel
theorem dX7_limit_7 : decode cX7_limit 7 = .ok (.aload 4, 2) := by decide +kernel
theorem dX7_limit_9 : decode cX7_limit 9 = .ok (.ifnull 21, 3) := by decide +kernel
theorem dX7_limit_12 : decode cX7_limit 12 = .ok (.iload_n 2, 1) := by decide +kernel
theorem dX7_limit_13 : decode cX7_limit 13 = .ok (.invokestatic 75, 3) := by decide +kernel
theorem dX7_limit_16 : decode cX7_limit 16 = .ok (.ifCond .eq 14, 3) := by decide +kernel
theorem dX7_limit_19 : decode cX7_limit 19 = .ok (.iload_n 3, 1) := by decide +kernel
theorem dX7_limit_20 : decode cX7_limit 20 = .ok (.iconst (-1), 1) := by decide +kernel
theorem dX7_limit_21 : decode cX7_limit 21 = .ok (.if_icmp .lt 9, 3) := by decide +kernel
theorem dX7_limit_24 : decode cX7_limit 24 = .ok (.iload_n 3, 1) := by decide +kernel
theorem dX7_limit_25 : decode cX7_limit 25 = .ok (.ldc 94, 2) := by decide +kernel
theorem dX7_limit_27 : decode cX7_limit 27 = .ok (.if_icmp .le 6, 3) := by decide +kernel
theorem dX7_limit_30 : decode cX7_limit 30 = .ok (.bipush (-2), 2) := by decide +kernel
theorem dX7_limit_32 : decode cX7_limit 32 = .ok (.ireturn, 1) := by decide +kernel
theorem dX7_limit_33 : decode cX7_limit 33 = .ok (.aload 4, 2) := by decide +kernel
theorem dX7_limit_35 : decode cX7_limit 35 = .ok (.getfield 95, 3) := by decide +kernel
theorem dX7_limit_38 : decode cX7_limit 38 = .ok (.iload_n 2, 1) := by decide +kernel
theorem dX7_limit_39 : decode cX7_limit 39 = .ok (.iload_n 3, 1) := by decide +kernel
theorem dX7_limit_40 : decode cX7_limit 40 = .ok (.iastore, 1) := by decide +kernel
theorem dX7_limit_41 : decode cX7_limit 41 = .ok (.iconst 0, 1) := by decide +kernel
theorem dX7_limit_42 : decode cX7_limit 42 = .ok (.ireturn, 1) := by decide +kernel
theorem dX7_request_0 : decode cX7_request 0 = .ok (.aload_n 0, 1) := by decide +kernel
theorem dX7_request_1 : decode cX7_request 1 = .ok (.iload_n 1, 1) := by decide +kernel
theorem dX7_request_2 : decode cX7_request 2 = .ok (.invokevirtual 47, 3) := by decide +kernel
theorem dX7_request_5 : decode cX7_request 5 = .ok (.astore 4, 2) := by decide +kernel
theorem dX7_request_7 : decode cX7_request 7 = .ok (.aload 4, 2) := by decide +kernel
theorem dX7_request_9 : decode cX7_request 9 = .ok (.ifnull 17, 3) := by decide +kernel
theorem dX7_request_12 : decode cX7_request 12 = .ok (.iload_n 2, 1) := by decide +kernel
theorem dX7_request_13 : decode cX7_request 13 = .ok (.invokestatic 75, 3) := by decide +kernel
theorem dX7_request_16 : decode cX7_request 16 = .ok (.ifCond .eq 10, 3) := by decide +kernel
theorem dX7_request_19 : decode cX7_request 19 = .ok (.iload_n 3, 1) := by decide +kernel
theorem dX7_request_20 : decode cX7_request 20 = .ok (.invokestatic 79, 3) := by decide +kernel
theorem dX7_request_23 : decode cX7_request 23 = .ok (.ifCond .ne 6, 3) := by decide +kernel
theorem dX7_request_26 : decode cX7_request 26 = .ok (.bipush (-2), 2) := by decide +kernel
theorem dX7_request_28 : decode cX7_request 28 = .ok (.ireturn, 1) := by decide +kernel
theorem dX7_request_29 : decode cX7_request 29 = .ok (.aload_n 0, 1) := by decide +kernel
theorem dX7_request_30 : decode cX7_request 30 = .ok (.getfield 99, 3) := by decide +kernel
theorem dX7_request_33 : decode cX7_request 33 = .ok (.bipush 40, 2) := by decide +kernel
theorem dX7_request_35 : decode cX7_request 35 = .ok (.if_icmp .ge 13, 3) := by decide +kernel
theorem dX7_request_38 : decode cX7_request 38 = .ok (.aload_n 0, 1) := by decide +kernel
theorem dX7_request_39 : decode cX7_request 39 = .ok (.getfield 102, 3) := by decide +kernel
theorem dX7_request_42 : decode cX7_request 42 = .ok (.sipush 200, 3) := by decide +kernel
theorem dX7_request_45 : decode cX7_request 45 = .ok (.if_icmp .lt 6, 3) := by decide +kernel
theorem dX7_request_48 : decode cX7_request 48 = .ok (.bipush (-3), 2) := by decide +kernel
theorem dX7_request_50 : decode cX7_request 50 = .ok (.ireturn, 1) := by decide +kernel
theorem dX7_request_51 : decode cX7_request 51 = .ok (.iload_n 3, 1) := by decide +kernel
theorem dX7_request_52 : decode cX7_request 52 = .ok (.aload 4, 2) := by decide +kernel
theorem dX7_request_54 : decode cX7_request 54 = .ok (.iload_n 2, 1) := by decide +kernel
theorem dX7_request_55 : decode cX7_request 55 = .ok (.aload_n 0, 1) := by decide +kernel
theorem dX7_request_56 : decode cX7_request 56 = .ok (.getfield 65, 3) := by decide +kernel
theorem dX7_request_59 : decode cX7_request 59 = .ok (.sipush 1000, 3) := by decide +kernel
theorem dX7_request_62 : decode cX7_request 62 = .ok (.idiv, 1) := by decide +kernel
theorem dX7_request_63 : decode cX7_request 63 = .ok (.invokevirtual 105, 3) := by decide +kernel
theorem dX7_request_66 : decode cX7_request 66 = .ok (.if_icmp .le 6, 3) := by decide +kernel
theorem dX7_request_69 : decode cX7_request 69 = .ok (.bipush (-7), 2) := by decide +kernel
theorem dX7_request_71 : decode cX7_request 71 = .ok (.ireturn, 1) := by decide +kernel
theorem dX7_request_72 : decode cX7_request 72 = .ok (.aload_n 0, 1) := by decide +kernel
theorem dX7_request_73 : decode cX7_request 73 = .ok (.getfield 23, 3) := by decide +kernel
theorem dX7_request_76 : decode cX7_request 76 = .ok (.aload_n 0, 1) := by decide +kernel
theorem dX7_request_77 : decode cX7_request 77 = .ok (.getfield 102, 3) := by decide +kernel
theorem dX7_request_80 : decode cX7_request 80 = .ok (.new 21, 3) := by decide +kernel
theorem dX7_request_83 : decode cX7_request 83 = .ok (.dup, 1) := by decide +kernel
theorem dX7_request_84 : decode cX7_request 84 = .ok (.aload 4, 2) := by decide +kernel
theorem dX7_request_86 : decode cX7_request 86 = .ok (.iload_n 2, 1) := by decide +kernel
theorem dX7_request_87 : decode cX7_request 87 = .ok (.iload_n 3, 1) := by decide +kernel
theorem dX7_request_88 : decode cX7_request 88 = .ok (.aload_n 0, 1) := by decide +kernel
theorem dX7_request_89 : decode cX7_request 89 = .ok (.getfield 65, 3) := by decide +kernel
theorem dX7_request_92 : decode cX7_request 92 = .ok (.invokespecial 109, 3) := by decide +kernel
theorem dX7_request_95 : decode cX7_request 95 = .ok (.aastore, 1) := by decide +kernel
theorem dX7_request_96 : decode cX7_request 96 = .ok (.aload_n 0, 1) := by decide +kernel
theorem dX7_request_97 : decode cX7_request 97 = .ok (.dup, 1) := by decide +kernel
theorem dX7_request_98 : decode cX7_request 98 = .ok (.getfield 102, 3) := by decide +kernel
theorem dX7_request_101 : decode cX7_request 101 = .ok (.iconst 1, 1) := by decide +kernel
theorem dX7_request_102 : decode cX7_request 102 = .ok (.iadd, 1) := by decide +kernel
theorem dX7_request_103 : decode cX7_request 103 = .ok (.putfield 102, 3) := by decide +kernel
theorem dX7_request_106 : decode cX7_request 106 = .ok (.aload_n 0, 1) := by decide +kernel
theorem dX7_request_107 : decode cX7_request 107 = .ok (.dup, 1) := by decide +kernel
theorem dX7_request_108 : decode cX7_request 108 = .ok (.getfield 99, 3) := by decide +kernel
theorem dX7_request_111 : decode cX7_request 111 = .ok (.iconst 1, 1) := by decide +kernel
theorem dX7_request_112 : decode cX7_request 112 = .ok (.iadd, 1) := by decide +kernel
theorem dX7_request_113 : decode cX7_request 113 = .ok (.putfield 99, 3) := by decide +kernel
theorem dX7_request_116 : decode cX7_request 116 = .ok (.aload 4, 2) := by decide +kernel
theorem dX7_request_118 : decode cX7_request 118 = .ok (.iload_n 2, 1) := by decide +kernel
theorem dX7_request_119 : decode cX7_request 119 = .ok (.iload_n 3, 1) := by decide +kernel
theorem dX7_request_120 : decode cX7_request 120 = .ok (.invokevirtual 112, 3) := by decide +kernel
theorem dX7_request_123 : decode cX7_request 123 = .ok (.aload_n 0, 1) := by decide +kernel
theorem dX7_request_124 : decode cX7_request 124 = .ok (.getfield 102, 3) := by decide +kernel
theorem dX7_request_127 : decode cX7_request 127 = .ok (.iconst 1, 1) := by decide +kernel
theorem dX7_request_128 : decode cX7_request 128 = .ok (.isub, 1) := by decide +kernel
theorem dX7_request_129 : decode cX7_request 129 = .ok (.ireturn, 1) := by decide +kernel
theorem dX7_settle_0 : decode cX7_settle 0 = .ok (.aload_n 0, 1) := by decide +kernel
theorem dX7_settle_1 : decode cX7_settle 1 = .ok (.iload_n 1, 1) := by decide +kernel
theorem dX7_settle_2 : decode cX7_settle 2 = .ok (.invokevirtual 116, 3) := by decide +kernel
theorem dX7_settle_5 : decode cX7_settle 5 = .ok (.astore 5, 2) := by decide +kernel
theorem dX7_settle_7 : decode cX7_settle 7 = .ok (.aload 5, 2) := by decide +kernel
theorem dX7_settle_9 : decode cX7_settle 9 = .ok (.ifnull 16, 3) := by decide +kernel
theorem dX7_settle_12 : decode cX7_settle 12 = .ok (.iload_n 2, 1) := by decide +kernel
theorem dX7_settle_13 : decode cX7_settle 13 = .ok (.ifCond .lt 12, 3) := by decide +kernel
theorem dX7_settle_16 : decode cX7_settle 16 = .ok (.iload_n 2, 1) := by decide +kernel
theorem dX7_settle_17 : decode cX7_settle 17 = .ok (.aload 5, 2) := by decide +kernel
theorem dX7_settle_19 : decode cX7_settle 19 = .ok (.getfield 120, 3) := by decide +kernel
theorem dX7_settle_22 : decode cX7_settle 22 = .ok (.if_icmp .le 6, 3) := by decide +kernel
theorem dX7_settle_25 : decode cX7_settle 25 = .ok (.bipush (-2), 2) := by decide +kernel
theorem dX7_settle_27 : decode cX7_settle 27 = .ok (.ireturn, 1) := by decide +kernel
theorem dX7_settle_28 : decode cX7_settle 28 = .ok (.iconst 0, 1) := by decide +kernel
theorem dX7_settle_29 : decode cX7_settle 29 = .ok (.istore 6, 2) := by decide +kernel
theorem dX7_settle_31 : decode cX7_settle 31 = .ok (.iload_n 2, 1) := by decide +kernel
theorem dX7_settle_32 : decode cX7_settle 32 = .ok (.ifCond .le 28, 3) := by decide +kernel
theorem dX7_settle_35 : decode cX7_settle 35 = .ok (.aload_n 0, 1) := by decide +kernel
theorem dX7_settle_36 : decode cX7_settle 36 = .ok (.lload_n 3, 1) := by decide +kernel
theorem dX7_settle_37 : decode cX7_settle 37 = .ok (.aload 5, 2) := by decide +kernel
theorem dX7_settle_39 : decode cX7_settle 39 = .ok (.getfield 123, 3) := by decide +kernel
theorem dX7_settle_42 : decode cX7_settle 42 = .ok (.getfield 127, 3) := by decide +kernel
theorem dX7_settle_45 : decode cX7_settle 45 = .ok (.aload 5, 2) := by decide +kernel
theorem dX7_settle_47 : decode cX7_settle 47 = .ok (.getfield 128, 3) := by decide +kernel
theorem dX7_settle_50 : decode cX7_settle 50 = .ok (.iload_n 2, 1) := by decide +kernel
theorem dX7_settle_51 : decode cX7_settle 51 = .ok (.aload_n 0, 1) := by decide +kernel
theorem dX7_settle_52 : decode cX7_settle 52 = .ok (.getfield 65, 3) := by decide +kernel
theorem dX7_settle_55 : decode cX7_settle 55 = .ok (.invokevirtual 131, 3) := by decide +kernel
theorem dX7_settle_58 : decode cX7_settle 58 = .ok (.istore 6, 2) := by decide +kernel
theorem dX7_settle_60 : decode cX7_settle 60 = .ok (.iload 6, 2) := by decide +kernel
theorem dX7_settle_62 : decode cX7_settle 62 = .ok (.ifCond .lt 9, 3) := by decide +kernel
theorem dX7_settle_65 : decode cX7_settle 65 = .ok (.aload_n 0, 1) := by decide +kernel
theorem dX7_settle_66 : decode cX7_settle 66 = .ok (.aload 5, 2) := by decide +kernel
theorem dX7_settle_68 : decode cX7_settle 68 = .ok (.invokevirtual 135, 3) := by decide +kernel
theorem dX7_settle_71 : decode cX7_settle 71 = .ok (.iload 6, 2) := by decide +kernel
theorem dX7_settle_73 : decode cX7_settle 73 = .ok (.ireturn, 1) := by decide +kernel
theorem dX7_drop_0 : decode cX7_drop 0 = .ok (.aload_n 0, 1) := by decide +kernel
theorem dX7_drop_1 : decode cX7_drop 1 = .ok (.iload_n 1, 1) := by decide +kernel
theorem dX7_drop_2 : decode cX7_drop 2 = .ok (.invokevirtual 116, 3) := by decide +kernel
theorem dX7_drop_5 : decode cX7_drop 5 = .ok (.astore_n 2, 1) := by decide +kernel
theorem dX7_drop_6 : decode cX7_drop 6 = .ok (.aload_n 2, 1) := by decide +kernel
theorem dX7_drop_7 : decode cX7_drop 7 = .ok (.ifnonnull 6, 3) := by decide +kernel
theorem dX7_drop_10 : decode cX7_drop 10 = .ok (.bipush (-2), 2) := by decide +kernel
theorem dX7_drop_12 : decode cX7_drop 12 = .ok (.ireturn, 1) := by decide +kernel
theorem dX7_drop_13 : decode cX7_drop 13 = .ok (.aload_n 0, 1) := by decide +kernel
theorem dX7_drop_14 : decode cX7_drop 14 = .ok (.aload_n 2, 1) := by decide +kernel
theorem dX7_drop_15 : decode cX7_drop 15 = .ok (.invokevirtual 135, 3) := by decide +kernel
theorem dX7_drop_18 : decode cX7_drop 18 = .ok (.aload_n 2, 1) := by decide +kernel
theorem dX7_drop_19 : decode cX7_drop 19 = .ok (.getfield 120, 3) := by decide +kernel
theorem dX7_drop_22 : decode cX7_drop 22 = .ok (.ireturn, 1) := by decide +kernel
theorem dX7_mode_0 : decode cX7_mode 0 = .ok (.aload_n 0, 1) := by decide +kernel
theorem dX7_mode_1 : decode cX7_mode 1 = .ok (.iload_n 1, 1) := by decide +kernel
theorem dX7_mode_2 : decode cX7_mode 2 = .ok (.iload_n 2, 1) := by decide +kernel
theorem dX7_mode_3 : decode cX7_mode 3 = .ok (.invokevirtual 139, 3) := by decide +kernel
theorem dX7_mode_6 : decode cX7_mode 6 = .ok (.astore 5, 2) := by decide +kernel
theorem dX7_mode_8 : decode cX7_mode 8 = .ok (.aload 5, 2) := by decide +kernel
theorem dX7_mode_10 : decode cX7_mode 10 = .ok (.ifnull 25, 3) := by decide +kernel
theorem dX7_mode_13 : decode cX7_mode 13 = .ok (.iload_n 3, 1) := by decide +kernel
theorem dX7_mode_14 : decode cX7_mode 14 = .ok (.ifCond .lt 21, 3) := by decide +kernel
theorem dX7_mode_17 : decode cX7_mode 17 = .ok (.iload_n 3, 1) := by decide +kernel
theorem dX7_mode_18 : decode cX7_mode 18 = .ok (.iconst 2, 1) := by decide +kernel
theorem dX7_mode_19 : decode cX7_mode 19 = .ok (.if_icmp .gt 16, 3) := by decide +kernel
theorem dX7_mode_22 : decode cX7_mode 22 = .ok (.iload 4, 2) := by decide +kernel
theorem dX7_mode_24 : decode cX7_mode 24 = .ok (.iconst 1, 1) := by decide +kernel
theorem dX7_mode_25 : decode cX7_mode 25 = .ok (.if_icmp .lt 10, 3) := by decide +kernel
theorem dX7_mode_28 : decode cX7_mode 28 = .ok (.iload 4, 2) := by decide +kernel
theorem dX7_mode_30 : decode cX7_mode 30 = .ok (.ldc 143, 2) := by decide +kernel
theorem dX7_mode_32 : decode cX7_mode 32 = .ok (.if_icmp .le 6, 3) := by decide +kernel
theorem dX7_mode_35 : decode cX7_mode 35 = .ok (.bipush (-2), 2) := by decide +kernel
theorem dX7_mode_37 : decode cX7_mode 37 = .ok (.ireturn, 1) := by decide +kernel
theorem dX7_mode_38 : decode cX7_mode 38 = .ok (.aload 5, 2) := by decide +kernel
theorem dX7_mode_40 : decode cX7_mode 40 = .ok (.iload_n 3, 1) := by decide +kernel
theorem dX7_mode_41 : decode cX7_mode 41 = .ok (.putfield 144, 3) := by decide +kernel
theorem dX7_mode_44 : decode cX7_mode 44 = .ok (.aload 5, 2) := by decide +kernel
theorem dX7_mode_46 : decode cX7_mode 46 = .ok (.iload 4, 2) := by decide +kernel
theorem dX7_mode_48 : decode cX7_mode 48 = .ok (.putfield 149, 3) := by decide +kernel
theorem dX7_mode_51 : decode cX7_mode 51 = .ok (.iconst 0, 1) := by decide +kernel
theorem dX7_mode_52 : decode cX7_mode 52 = .ok (.ireturn, 1) := by decide +kernel
theorem dX7_tier_0 : decode cX7_tier 0 = .ok (.aload_n 0, 1) := by decide +kernel
theorem dX7_tier_1 : decode cX7_tier 1 = .ok (.iload_n 1, 1) := by decide +kernel
theorem dX7_tier_2 : decode cX7_tier 2 = .ok (.iload_n 2, 1) := by decide +kernel
theorem dX7_tier_3 : decode cX7_tier 3 = .ok (.invokevirtual 139, 3) := by decide +kernel
theorem dX7_tier_6 : decode cX7_tier 6 = .ok (.astore 8, 2) := by decide +kernel
theorem dX7_tier_8 : decode cX7_tier 8 = .ok (.aload 8, 2) := by decide +kernel
theorem dX7_tier_10 : decode cX7_tier 10 = .ok (.ifnull 19, 3) := by decide +kernel
theorem dX7_tier_13 : decode cX7_tier 13 = .ok (.lload 4, 2) := by decide +kernel
theorem dX7_tier_15 : decode cX7_tier 15 = .ok (.lconst 1, 1) := by decide +kernel
theorem dX7_tier_16 : decode cX7_tier 16 = .ok (.lcmp, 1) := by decide +kernel
theorem dX7_tier_17 : decode cX7_tier 17 = .ok (.ifCond .lt 12, 3) := by decide +kernel
theorem dX7_tier_20 : decode cX7_tier 20 = .ok (.lload 4, 2) := by decide +kernel
theorem dX7_tier_22 : decode cX7_tier 22 = .ok (.ldc2_w 152, 3) := by decide +kernel
theorem dX7_tier_25 : decode cX7_tier 25 = .ok (.lcmp, 1) := by decide +kernel
theorem dX7_tier_26 : decode cX7_tier 26 = .ok (.ifCond .le 6, 3) := by decide +kernel
theorem dX7_tier_29 : decode cX7_tier 29 = .ok (.bipush (-2), 2) := by decide +kernel
theorem dX7_tier_31 : decode cX7_tier 31 = .ok (.ireturn, 1) := by decide +kernel
theorem dX7_tier_32 : decode cX7_tier 32 = .ok (.iload 6, 2) := by decide +kernel
theorem dX7_tier_34 : decode cX7_tier 34 = .ok (.ifCond .lt 22, 3) := by decide +kernel
theorem dX7_tier_37 : decode cX7_tier 37 = .ok (.iload 6, 2) := by decide +kernel
theorem dX7_tier_39 : decode cX7_tier 39 = .ok (.ldc 154, 2) := by decide +kernel
theorem dX7_tier_41 : decode cX7_tier 41 = .ok (.if_icmp .gt 15, 3) := by decide +kernel
theorem dX7_tier_44 : decode cX7_tier 44 = .ok (.iload 7, 2) := by decide +kernel
theorem dX7_tier_46 : decode cX7_tier 46 = .ok (.ifCond .lt 10, 3) := by decide +kernel
theorem dX7_tier_49 : decode cX7_tier 49 = .ok (.iload 7, 2) := by decide +kernel
theorem dX7_tier_51 : decode cX7_tier 51 = .ok (.ldc 94, 2) := by decide +kernel
theorem dX7_tier_53 : decode cX7_tier 53 = .ok (.if_icmp .le 6, 3) := by decide +kernel
theorem dX7_tier_56 : decode cX7_tier 56 = .ok (.bipush (-2), 2) := by decide +kernel
theorem dX7_tier_58 : decode cX7_tier 58 = .ok (.ireturn, 1) := by decide +kernel
theorem dX7_tier_59 : decode cX7_tier 59 = .ok (.aload 8, 2) := by decide +kernel
theorem dX7_tier_61 : decode cX7_tier 61 = .ok (.iload_n 3, 1) := by decide +kernel
theorem dX7_tier_62 : decode cX7_tier 62 = .ok (.lload 4, 2) := by decide +kernel
theorem dX7_tier_64 : decode cX7_tier 64 = .ok (.iload 6, 2) := by decide +kernel
theorem dX7_tier_66 : decode cX7_tier 66 = .ok (.iload 7, 2) := by decide +kernel
theorem dX7_tier_68 : decode cX7_tier 68 = .ok (.invokevirtual 155, 3) := by decide +kernel
theorem dX7_tier_71 : decode cX7_tier 71 = .ok (.ifCond .eq 7, 3) := by decide +kernel
theorem dX7_tier_74 : decode cX7_tier 74 = .ok (.iconst 0, 1) := by decide +kernel
theorem dX7_tier_75 : decode cX7_tier 75 = .ok (.goto 5, 3) := by decide +kernel
theorem dX7_tier_78 : decode cX7_tier 78 = .ok (.bipush (-2), 2) := by decide +kernel
theorem dX7_tier_80 : decode cX7_tier 80 = .ok (.ireturn, 1) := by decide +kernel
theorem dX7_tiers_0 : decode cX7_tiers 0 = .ok (.aload_n 0, 1) := by decide +kernel
theorem dX7_tiers_1 : decode cX7_tiers 1 = .ok (.iload_n 1, 1) := by decide +kernel
theorem dX7_tiers_2 : decode cX7_tiers 2 = .ok (.iload_n 2, 1) := by decide +kernel
theorem dX7_tiers_3 : decode cX7_tiers 3 = .ok (.invokevirtual 139, 3) := by decide +kernel
theorem dX7_tiers_6 : decode cX7_tiers 6 = .ok (.astore 4, 2) := by decide +kernel
theorem dX7_tiers_8 : decode cX7_tiers 8 = .ok (.aload 4, 2) := by decide +kernel
theorem dX7_tiers_10 : decode cX7_tiers 10 = .ok (.ifnull 13, 3) := by decide +kernel
theorem dX7_tiers_13 : decode cX7_tiers 13 = .ok (.iload_n 3, 1) := by decide +kernel
theorem dX7_tiers_14 : decode cX7_tiers 14 = .ok (.iconst 1, 1) := by decide +kernel
theorem dX7_tiers_15 : decode cX7_tiers 15 = .ok (.if_icmp .lt 8, 3) := by decide +kernel
theorem dX7_tiers_18 : decode cX7_tiers 18 = .ok (.iload_n 3, 1) := by decide +kernel
theorem dX7_tiers_19 : decode cX7_tiers 19 = .ok (.iconst 5, 1) := by decide +kernel
theorem dX7_tiers_20 : decode cX7_tiers 20 = .ok (.if_icmp .le 6, 3) := by decide +kernel
theorem dX7_tiers_23 : decode cX7_tiers 23 = .ok (.bipush (-2), 2) := by decide +kernel
end
section
theorem dX7_tiers_25 : decode cX7_tiers 25 = .ok (.ireturn, 1) := by decide +kernel
theorem dX7_tiers_26 : decode cX7_tiers 26 = .ok (.aload 4, 2) := by decide +kernel
theorem dX7_tiers_28 : decode cX7_tiers 28 = .ok (.aload 4, 2) := by decide +kernel
theorem dX7_tiers_30 : decode cX7_tiers 30 = .ok (.getfield 159, 3) := by decide +kernel
theorem dX7_tiers_33 : decode cX7_tiers 33 = .ok (.iload_n 3, 1) := by decide +kernel
theorem dX7_tiers_34 : decode cX7_tiers 34 = .ok (.invokestatic 162, 3) := by decide +kernel
theorem dX7_tiers_37 : decode cX7_tiers 37 = .ok (.putfield 159, 3) := by decide +kernel
theorem dX7_tiers_40 : decode cX7_tiers 40 = .ok (.aload 4, 2) := by decide +kernel
theorem dX7_tiers_42 : decode cX7_tiers 42 = .ok (.getfield 159, 3) := by decide +kernel
theorem dX7_tiers_45 : decode cX7_tiers 45 = .ok (.ireturn, 1) := by decide +kernel
theorem dX7_cost_0 : decode cX7_cost 0 = .ok (.aload_n 0, 1) := by decide +kernel
theorem dX7_cost_1 : decode cX7_cost 1 = .ok (.iload_n 1, 1) := by decide +kernel
theorem dX7_cost_2 : decode cX7_cost 2 = .ok (.iload_n 2, 1) := by decide +kernel
theorem dX7_cost_3 : decode cX7_cost 3 = .ok (.invokevirtual 139, 3) := by decide +kernel
theorem dX7_cost_6 : decode cX7_cost 6 = .ok (.astore 5, 2) := by decide +kernel
theorem dX7_cost_8 : decode cX7_cost 8 = .ok (.aload 5, 2) := by decide +kernel
theorem dX7_cost_10 : decode cX7_cost 10 = .ok (.ifnull 17, 3) := by decide +kernel
theorem dX7_cost_13 : decode cX7_cost 13 = .ok (.lload_n 3, 1) := by decide +kernel
theorem dX7_cost_14 : decode cX7_cost 14 = .ok (.lconst 0, 1) := by decide +kernel
theorem dX7_cost_15 : decode cX7_cost 15 = .ok (.lcmp, 1) := by decide +kernel
theorem dX7_cost_16 : decode cX7_cost 16 = .ok (.ifCond .lt 11, 3) := by decide +kernel
theorem dX7_cost_19 : decode cX7_cost 19 = .ok (.lload_n 3, 1) := by decide +kernel
theorem dX7_cost_20 : decode cX7_cost 20 = .ok (.ldc2_w 152, 3) := by decide +kernel
theorem dX7_cost_23 : decode cX7_cost 23 = .ok (.lcmp, 1) := by decide +kernel
theorem dX7_cost_24 : decode cX7_cost 24 = .ok (.ifCond .le 7, 3) := by decide +kernel
theorem dX7_cost_27 : decode cX7_cost 27 = .ok (.ldc2_w 167, 3) := by decide +kernel
theorem dX7_cost_30 : decode cX7_cost 30 = .ok (.lreturn, 1) := by decide +kernel
theorem dX7_cost_31 : decode cX7_cost 31 = .ok (.aload 5, 2) := by decide +kernel
theorem dX7_cost_33 : decode cX7_cost 33 = .ok (.lload_n 3, 1) := by decide +kernel
theorem dX7_cost_34 : decode cX7_cost 34 = .ok (.invokevirtual 169, 3) := by decide +kernel
theorem dX7_cost_37 : decode cX7_cost 37 = .ok (.lreturn, 1) := by decide +kernel
theorem dX7_terms_0 : decode cX7_terms 0 = .ok (.aload_n 0, 1) := by decide +kernel
theorem dX7_terms_1 : decode cX7_terms 1 = .ok (.iload_n 1, 1) := by decide +kernel
theorem dX7_terms_2 : decode cX7_terms 2 = .ok (.invokevirtual 43, 3) := by decide +kernel
theorem dX7_terms_5 : decode cX7_terms 5 = .ok (.astore 6, 2) := by decide +kernel
theorem dX7_terms_7 : decode cX7_terms 7 = .ok (.aload 6, 2) := by decide +kernel
theorem dX7_terms_9 : decode cX7_terms 9 = .ok (.ifnull 32, 3) := by decide +kernel
theorem dX7_terms_12 : decode cX7_terms 12 = .ok (.iload_n 2, 1) := by decide +kernel
theorem dX7_terms_13 : decode cX7_terms 13 = .ok (.invokestatic 173, 3) := by decide +kernel
theorem dX7_terms_16 : decode cX7_terms 16 = .ok (.ifCond .eq 25, 3) := by decide +kernel
theorem dX7_terms_19 : decode cX7_terms 19 = .ok (.lload_n 3, 1) := by decide +kernel
theorem dX7_terms_20 : decode cX7_terms 20 = .ok (.lconst 0, 1) := by decide +kernel
theorem dX7_terms_21 : decode cX7_terms 21 = .ok (.lcmp, 1) := by decide +kernel
theorem dX7_terms_22 : decode cX7_terms 22 = .ok (.ifCond .lt 19, 3) := by decide +kernel
theorem dX7_terms_25 : decode cX7_terms 25 = .ok (.lload_n 3, 1) := by decide +kernel
theorem dX7_terms_26 : decode cX7_terms 26 = .ok (.ldc2_w 176, 3) := by decide +kernel
theorem dX7_terms_29 : decode cX7_terms 29 = .ok (.lcmp, 1) := by decide +kernel
theorem dX7_terms_30 : decode cX7_terms 30 = .ok (.ifCond .gt 11, 3) := by decide +kernel
theorem dX7_terms_33 : decode cX7_terms 33 = .ok (.iload 5, 2) := by decide +kernel
theorem dX7_terms_35 : decode cX7_terms 35 = .ok (.invokestatic 173, 3) := by decide +kernel
theorem dX7_terms_38 : decode cX7_terms 38 = .ok (.ifCond .ne 6, 3) := by decide +kernel
theorem dX7_terms_41 : decode cX7_terms 41 = .ok (.bipush (-2), 2) := by decide +kernel
theorem dX7_terms_43 : decode cX7_terms 43 = .ok (.ireturn, 1) := by decide +kernel
theorem dX7_terms_44 : decode cX7_terms 44 = .ok (.aload 6, 2) := by decide +kernel
theorem dX7_terms_46 : decode cX7_terms 46 = .ok (.iload_n 2, 1) := by decide +kernel
theorem dX7_terms_47 : decode cX7_terms 47 = .ok (.putfield 178, 3) := by decide +kernel
theorem dX7_terms_50 : decode cX7_terms 50 = .ok (.aload 6, 2) := by decide +kernel
theorem dX7_terms_52 : decode cX7_terms 52 = .ok (.lload_n 3, 1) := by decide +kernel
theorem dX7_terms_53 : decode cX7_terms 53 = .ok (.putfield 181, 3) := by decide +kernel
theorem dX7_terms_56 : decode cX7_terms 56 = .ok (.aload 6, 2) := by decide +kernel
theorem dX7_terms_58 : decode cX7_terms 58 = .ok (.iload 5, 2) := by decide +kernel
theorem dX7_terms_60 : decode cX7_terms 60 = .ok (.putfield 185, 3) := by decide +kernel
theorem dX7_terms_63 : decode cX7_terms 63 = .ok (.iconst 0, 1) := by decide +kernel
theorem dX7_terms_64 : decode cX7_terms 64 = .ok (.ireturn, 1) := by decide +kernel
theorem dX7_credit_0 : decode cX7_credit 0 = .ok (.aload_n 0, 1) := by decide +kernel
theorem dX7_credit_1 : decode cX7_credit 1 = .ok (.iload_n 1, 1) := by decide +kernel
theorem dX7_credit_2 : decode cX7_credit 2 = .ok (.invokevirtual 43, 3) := by decide +kernel
theorem dX7_credit_5 : decode cX7_credit 5 = .ok (.astore 5, 2) := by decide +kernel
theorem dX7_credit_7 : decode cX7_credit 7 = .ok (.aload 5, 2) := by decide +kernel
theorem dX7_credit_9 : decode cX7_credit 9 = .ok (.ifnull 17, 3) := by decide +kernel
theorem dX7_credit_12 : decode cX7_credit 12 = .ok (.lload_n 2, 1) := by decide +kernel
theorem dX7_credit_13 : decode cX7_credit 13 = .ok (.lconst 1, 1) := by decide +kernel
theorem dX7_credit_14 : decode cX7_credit 14 = .ok (.lcmp, 1) := by decide +kernel
theorem dX7_credit_15 : decode cX7_credit 15 = .ok (.ifCond .lt 11, 3) := by decide +kernel
theorem dX7_credit_18 : decode cX7_credit 18 = .ok (.lload_n 2, 1) := by decide +kernel
theorem dX7_credit_19 : decode cX7_credit 19 = .ok (.ldc2_w 176, 3) := by decide +kernel
theorem dX7_credit_22 : decode cX7_credit 22 = .ok (.lcmp, 1) := by decide +kernel
theorem dX7_credit_23 : decode cX7_credit 23 = .ok (.ifCond .le 6, 3) := by decide +kernel
theorem dX7_credit_26 : decode cX7_credit 26 = .ok (.bipush (-2), 2) := by decide +kernel
theorem dX7_credit_28 : decode cX7_credit 28 = .ok (.ireturn, 1) := by decide +kernel
theorem dX7_credit_29 : decode cX7_credit 29 = .ok (.iload 4, 2) := by decide +kernel
theorem dX7_credit_31 : decode cX7_credit 31 = .ok (.invokestatic 188, 3) := by decide +kernel
theorem dX7_credit_34 : decode cX7_credit 34 = .ok (.ifCond .eq 13, 3) := by decide +kernel
theorem dX7_credit_37 : decode cX7_credit 37 = .ok (.iload 4, 2) := by decide +kernel
theorem dX7_credit_39 : decode cX7_credit 39 = .ok (.aload 5, 2) := by decide +kernel
theorem dX7_credit_41 : decode cX7_credit 41 = .ok (.getfield 191, 3) := by decide +kernel
theorem dX7_credit_44 : decode cX7_credit 44 = .ok (.if_icmp .ge 6, 3) := by decide +kernel
theorem dX7_credit_47 : decode cX7_credit 47 = .ok (.bipush (-2), 2) := by decide +kernel
theorem dX7_credit_49 : decode cX7_credit 49 = .ok (.ireturn, 1) := by decide +kernel
theorem dX7_credit_50 : decode cX7_credit 50 = .ok (.aload 5, 2) := by decide +kernel
theorem dX7_credit_52 : decode cX7_credit 52 = .ok (.getfield 194, 3) := by decide +kernel
theorem dX7_credit_55 : decode cX7_credit 55 = .ok (.lload_n 2, 1) := by decide +kernel
theorem dX7_credit_56 : decode cX7_credit 56 = .ok (.iload 4, 2) := by decide +kernel
theorem dX7_credit_58 : decode cX7_credit 58 = .ok (.invokevirtual 198, 3) := by decide +kernel
theorem dX7_credit_61 : decode cX7_credit 61 = .ok (.ireturn, 1) := by decide +kernel
theorem dX7_close_0 : decode cX7_close 0 = .ok (.aload_n 0, 1) := by decide +kernel
theorem dX7_close_1 : decode cX7_close 1 = .ok (.iload_n 1, 1) := by decide +kernel
theorem dX7_close_2 : decode cX7_close 2 = .ok (.invokevirtual 43, 3) := by decide +kernel
theorem dX7_close_5 : decode cX7_close 5 = .ok (.astore_n 2, 1) := by decide +kernel
theorem dX7_close_6 : decode cX7_close 6 = .ok (.aload_n 2, 1) := by decide +kernel
theorem dX7_close_7 : decode cX7_close 7 = .ok (.ifnonnull 6, 3) := by decide +kernel
theorem dX7_close_10 : decode cX7_close 10 = .ok (.bipush (-2), 2) := by decide +kernel
theorem dX7_close_12 : decode cX7_close 12 = .ok (.ireturn, 1) := by decide +kernel
theorem dX7_close_13 : decode cX7_close 13 = .ok (.aload_n 0, 1) := by decide +kernel
theorem dX7_close_14 : decode cX7_close 14 = .ok (.getfield 65, 3) := by decide +kernel
theorem dX7_close_17 : decode cX7_close 17 = .ok (.aload_n 2, 1) := by decide +kernel
theorem dX7_close_18 : decode cX7_close 18 = .ok (.getfield 191, 3) := by decide +kernel
theorem dX7_close_21 : decode cX7_close 21 = .ok (.iconst 1, 1) := by decide +kernel
theorem dX7_close_22 : decode cX7_close 22 = .ok (.iadd, 1) := by decide +kernel
theorem dX7_close_23 : decode cX7_close 23 = .ok (.sipush 1000, 3) := by decide +kernel
theorem dX7_close_26 : decode cX7_close 26 = .ok (.imul, 1) := by decide +kernel
theorem dX7_close_27 : decode cX7_close 27 = .ok (.if_icmp .ge 6, 3) := by decide +kernel
theorem dX7_close_30 : decode cX7_close 30 = .ok (.bipush (-4), 2) := by decide +kernel
theorem dX7_close_32 : decode cX7_close 32 = .ok (.ireturn, 1) := by decide +kernel
theorem dX7_close_33 : decode cX7_close 33 = .ok (.aload_n 0, 1) := by decide +kernel
theorem dX7_close_34 : decode cX7_close 34 = .ok (.getfield 204, 3) := by decide +kernel
theorem dX7_close_37 : decode cX7_close 37 = .ok (.bipush 60, 2) := by decide +kernel
theorem dX7_close_39 : decode cX7_close 39 = .ok (.if_icmp .lt 6, 3) := by decide +kernel
theorem dX7_close_42 : decode cX7_close 42 = .ok (.bipush (-3), 2) := by decide +kernel
theorem dX7_close_44 : decode cX7_close 44 = .ok (.ireturn, 1) := by decide +kernel
theorem dX7_close_45 : decode cX7_close 45 = .ok (.new 27, 3) := by decide +kernel
theorem dX7_close_48 : decode cX7_close 48 = .ok (.dup, 1) := by decide +kernel
theorem dX7_close_49 : decode cX7_close 49 = .ok (.iload_n 1, 1) := by decide +kernel
theorem dX7_close_50 : decode cX7_close 50 = .ok (.aload_n 2, 1) := by decide +kernel
theorem dX7_close_51 : decode cX7_close 51 = .ok (.getfield 191, 3) := by decide +kernel
theorem dX7_close_54 : decode cX7_close 54 = .ok (.invokespecial 207, 3) := by decide +kernel
theorem dX7_close_57 : decode cX7_close 57 = .ok (.astore_n 3, 1) := by decide +kernel
theorem dX7_close_58 : decode cX7_close 58 = .ok (.aload_n 0, 1) := by decide +kernel
theorem dX7_close_59 : decode cX7_close 59 = .ok (.aload_n 3, 1) := by decide +kernel
theorem dX7_close_60 : decode cX7_close 60 = .ok (.aload_n 2, 1) := by decide +kernel
theorem dX7_close_61 : decode cX7_close 61 = .ok (.invokevirtual 209, 3) := by decide +kernel
theorem dX7_close_64 : decode cX7_close 64 = .ok (.aload_n 2, 1) := by decide +kernel
theorem dX7_close_65 : decode cX7_close 65 = .ok (.aload_n 3, 1) := by decide +kernel
theorem dX7_close_66 : decode cX7_close 66 = .ok (.invokevirtual 213, 3) := by decide +kernel
theorem dX7_close_69 : decode cX7_close 69 = .ok (.aload_n 2, 1) := by decide +kernel
theorem dX7_close_70 : decode cX7_close 70 = .ok (.aload_n 3, 1) := by decide +kernel
theorem dX7_close_71 : decode cX7_close 71 = .ok (.invokevirtual 217, 3) := by decide +kernel
theorem dX7_close_74 : decode cX7_close 74 = .ok (.aload_n 2, 1) := by decide +kernel
theorem dX7_close_75 : decode cX7_close 75 = .ok (.getfield 194, 3) := by decide +kernel
theorem dX7_close_78 : decode cX7_close 78 = .ok (.aload_n 3, 1) := by decide +kernel
theorem dX7_close_79 : decode cX7_close 79 = .ok (.invokevirtual 220, 3) := by decide +kernel
theorem dX7_close_82 : decode cX7_close 82 = .ok (.aload_n 2, 1) := by decide +kernel
theorem dX7_close_83 : decode cX7_close 83 = .ok (.invokevirtual 223, 3) := by decide +kernel
theorem dX7_close_86 : decode cX7_close 86 = .ok (.aload_n 0, 1) := by decide +kernel
theorem dX7_close_87 : decode cX7_close 87 = .ok (.getfield 29, 3) := by decide +kernel
theorem dX7_close_90 : decode cX7_close 90 = .ok (.aload_n 0, 1) := by decide +kernel
theorem dX7_close_91 : decode cX7_close 91 = .ok (.getfield 204, 3) := by decide +kernel
theorem dX7_close_94 : decode cX7_close 94 = .ok (.aload_n 3, 1) := by decide +kernel
theorem dX7_close_95 : decode cX7_close 95 = .ok (.aastore, 1) := by decide +kernel
theorem dX7_close_96 : decode cX7_close 96 = .ok (.aload_n 0, 1) := by decide +kernel
theorem dX7_close_97 : decode cX7_close 97 = .ok (.dup, 1) := by decide +kernel
theorem dX7_close_98 : decode cX7_close 98 = .ok (.getfield 204, 3) := by decide +kernel
theorem dX7_close_101 : decode cX7_close 101 = .ok (.iconst 1, 1) := by decide +kernel
theorem dX7_close_102 : decode cX7_close 102 = .ok (.iadd, 1) := by decide +kernel
theorem dX7_close_103 : decode cX7_close 103 = .ok (.putfield 204, 3) := by decide +kernel
theorem dX7_close_106 : decode cX7_close 106 = .ok (.aload_n 0, 1) := by decide +kernel
theorem dX7_close_107 : decode cX7_close 107 = .ok (.getfield 204, 3) := by decide +kernel
theorem dX7_close_110 : decode cX7_close 110 = .ok (.iconst 1, 1) := by decide +kernel
theorem dX7_close_111 : decode cX7_close 111 = .ok (.isub, 1) := by decide +kernel
theorem dX7_close_112 : decode cX7_close 112 = .ok (.ireturn, 1) := by decide +kernel
theorem dX7_used_0 : decode cX7_used 0 = .ok (.aload_n 0, 1) := by decide +kernel
theorem dX7_used_1 : decode cX7_used 1 = .ok (.iload_n 1, 1) := by decide +kernel
theorem dX7_used_2 : decode cX7_used 2 = .ok (.invokevirtual 47, 3) := by decide +kernel
theorem dX7_used_5 : decode cX7_used 5 = .ok (.astore 4, 2) := by decide +kernel
theorem dX7_used_7 : decode cX7_used 7 = .ok (.aload 4, 2) := by decide +kernel
theorem dX7_used_9 : decode cX7_used 9 = .ok (.ifnull 17, 3) := by decide +kernel
theorem dX7_used_12 : decode cX7_used 12 = .ok (.iload_n 2, 1) := by decide +kernel
theorem dX7_used_13 : decode cX7_used 13 = .ok (.invokestatic 75, 3) := by decide +kernel
theorem dX7_used_16 : decode cX7_used 16 = .ok (.ifCond .eq 10, 3) := by decide +kernel
theorem dX7_used_19 : decode cX7_used 19 = .ok (.iload_n 3, 1) := by decide +kernel
theorem dX7_used_20 : decode cX7_used 20 = .ok (.invokestatic 188, 3) := by decide +kernel
theorem dX7_used_23 : decode cX7_used 23 = .ok (.ifCond .ne 7, 3) := by decide +kernel
theorem dX7_used_26 : decode cX7_used 26 = .ok (.ldc2_w 167, 3) := by decide +kernel
theorem dX7_used_29 : decode cX7_used 29 = .ok (.lreturn, 1) := by decide +kernel
theorem dX7_used_30 : decode cX7_used 30 = .ok (.aload 4, 2) := by decide +kernel
theorem dX7_used_32 : decode cX7_used 32 = .ok (.getfield 226, 3) := by decide +kernel
theorem dX7_used_35 : decode cX7_used 35 = .ok (.iload_n 2, 1) := by decide +kernel
theorem dX7_used_36 : decode cX7_used 36 = .ok (.aaload, 1) := by decide +kernel
theorem dX7_used_37 : decode cX7_used 37 = .ok (.iload_n 3, 1) := by decide +kernel
theorem dX7_used_38 : decode cX7_used 38 = .ok (.laload, 1) := by decide +kernel
theorem dX7_used_39 : decode cX7_used 39 = .ok (.lreturn, 1) := by decide +kernel
theorem dX7_held_0 : decode cX7_held 0 = .ok (.aload_n 0, 1) := by decide +kernel
theorem dX7_held_1 : decode cX7_held 1 = .ok (.iload_n 1, 1) := by decide +kernel
theorem dX7_held_2 : decode cX7_held 2 = .ok (.invokevirtual 47, 3) := by decide +kernel
theorem dX7_held_5 : decode cX7_held 5 = .ok (.astore_n 3, 1) := by decide +kernel
theorem dX7_held_6 : decode cX7_held 6 = .ok (.aload_n 3, 1) := by decide +kernel
theorem dX7_held_7 : decode cX7_held 7 = .ok (.ifnull 10, 3) := by decide +kernel
theorem dX7_held_10 : decode cX7_held 10 = .ok (.iload_n 2, 1) := by decide +kernel
theorem dX7_held_11 : decode cX7_held 11 = .ok (.invokestatic 75, 3) := by decide +kernel
theorem dX7_held_14 : decode cX7_held 14 = .ok (.ifCond .ne 6, 3) := by decide +kernel
theorem dX7_held_17 : decode cX7_held 17 = .ok (.bipush (-2), 2) := by decide +kernel
theorem dX7_held_19 : decode cX7_held 19 = .ok (.ireturn, 1) := by decide +kernel
theorem dX7_held_20 : decode cX7_held 20 = .ok (.aload_n 3, 1) := by decide +kernel
theorem dX7_held_21 : decode cX7_held 21 = .ok (.getfield 230, 3) := by decide +kernel
theorem dX7_held_24 : decode cX7_held 24 = .ok (.iload_n 2, 1) := by decide +kernel
theorem dX7_held_25 : decode cX7_held 25 = .ok (.iaload, 1) := by decide +kernel
theorem dX7_held_26 : decode cX7_held 26 = .ok (.ireturn, 1) := by decide +kernel
theorem dX7_room_0 : decode cX7_room 0 = .ok (.aload_n 0, 1) := by decide +kernel
theorem dX7_room_1 : decode cX7_room 1 = .ok (.iload_n 1, 1) := by decide +kernel
theorem dX7_room_2 : decode cX7_room 2 = .ok (.invokevirtual 47, 3) := by decide +kernel
theorem dX7_room_5 : decode cX7_room 5 = .ok (.astore_n 3, 1) := by decide +kernel
theorem dX7_room_6 : decode cX7_room 6 = .ok (.aload_n 3, 1) := by decide +kernel
theorem dX7_room_7 : decode cX7_room 7 = .ok (.ifnull 10, 3) := by decide +kernel
theorem dX7_room_10 : decode cX7_room 10 = .ok (.iload_n 2, 1) := by decide +kernel
theorem dX7_room_11 : decode cX7_room 11 = .ok (.invokestatic 75, 3) := by decide +kernel
theorem dX7_room_14 : decode cX7_room 14 = .ok (.ifCond .ne 6, 3) := by decide +kernel
theorem dX7_room_17 : decode cX7_room 17 = .ok (.bipush (-2), 2) := by decide +kernel
theorem dX7_room_19 : decode cX7_room 19 = .ok (.ireturn, 1) := by decide +kernel
theorem dX7_room_20 : decode cX7_room 20 = .ok (.aload_n 3, 1) := by decide +kernel
theorem dX7_room_21 : decode cX7_room 21 = .ok (.iload_n 2, 1) := by decide +kernel
theorem dX7_room_22 : decode cX7_room 22 = .ok (.aload_n 0, 1) := by decide +kernel
theorem dX7_room_23 : decode cX7_room 23 = .ok (.getfield 65, 3) := by decide +kernel
theorem dX7_room_26 : decode cX7_room 26 = .ok (.sipush 1000, 3) := by decide +kernel
theorem dX7_room_29 : decode cX7_room 29 = .ok (.idiv, 1) := by decide +kernel
theorem dX7_room_30 : decode cX7_room 30 = .ok (.invokevirtual 105, 3) := by decide +kernel
theorem dX7_room_33 : decode cX7_room 33 = .ok (.ireturn, 1) := by decide +kernel
theorem dX7_hold_0 : decode cX7_hold 0 = .ok (.aload_n 0, 1) := by decide +kernel
theorem dX7_hold_1 : decode cX7_hold 1 = .ok (.iload_n 1, 1) := by decide +kernel
theorem dX7_hold_2 : decode cX7_hold 2 = .ok (.invokevirtual 233, 3) := by decide +kernel
theorem dX7_hold_5 : decode cX7_hold 5 = .ok (.astore_n 3, 1) := by decide +kernel
theorem dX7_hold_6 : decode cX7_hold 6 = .ok (.aload_n 3, 1) := by decide +kernel
theorem dX7_hold_7 : decode cX7_hold 7 = .ok (.ifnonnull 6, 3) := by decide +kernel
theorem dX7_hold_10 : decode cX7_hold 10 = .ok (.bipush (-2), 2) := by decide +kernel
theorem dX7_hold_12 : decode cX7_hold 12 = .ok (.ireturn, 1) := by decide +kernel
theorem dX7_hold_13 : decode cX7_hold 13 = .ok (.iload_n 2, 1) := by decide +kernel
theorem dX7_hold_14 : decode cX7_hold 14 = .ok (.tableswitch 70 0 4 #[34, 42, 47, 52, 57], 34) := by decide +kernel
theorem dX7_hold_48 : decode cX7_hold 48 = .ok (.aload_n 3, 1) := by decide +kernel
theorem dX7_hold_49 : decode cX7_hold 49 = .ok (.getfield 123, 3) := by decide +kernel
theorem dX7_hold_52 : decode cX7_hold 52 = .ok (.getfield 127, 3) := by decide +kernel
theorem dX7_hold_55 : decode cX7_hold 55 = .ok (.ireturn, 1) := by decide +kernel
theorem dX7_hold_56 : decode cX7_hold 56 = .ok (.aload_n 3, 1) := by decide +kernel
theorem dX7_hold_57 : decode cX7_hold 57 = .ok (.getfield 128, 3) := by decide +kernel
theorem dX7_hold_60 : decode cX7_hold 60 = .ok (.ireturn, 1) := by decide +kernel
theorem dX7_hold_61 : decode cX7_hold 61 = .ok (.aload_n 3, 1) := by decide +kernel
theorem dX7_hold_62 : decode cX7_hold 62 = .ok (.getfield 120, 3) := by decide +kernel
theorem dX7_hold_65 : decode cX7_hold 65 = .ok (.ireturn, 1) := by decide +kernel
theorem dX7_hold_66 : decode cX7_hold 66 = .ok (.aload_n 3, 1) := by decide +kernel
theorem dX7_hold_67 : decode cX7_hold 67 = .ok (.getfield 236, 3) := by decide +kernel
theorem dX7_hold_70 : decode cX7_hold 70 = .ok (.ireturn, 1) := by decide +kernel
theorem dX7_hold_71 : decode cX7_hold 71 = .ok (.aload_n 3, 1) := by decide +kernel
theorem dX7_hold_72 : decode cX7_hold 72 = .ok (.getfield 239, 3) := by decide +kernel
theorem dX7_hold_75 : decode cX7_hold 75 = .ok (.ifCond .eq 7, 3) := by decide +kernel
theorem dX7_hold_78 : decode cX7_hold 78 = .ok (.iconst 1, 1) := by decide +kernel
theorem dX7_hold_79 : decode cX7_hold 79 = .ok (.goto 4, 3) := by decide +kernel
theorem dX7_hold_82 : decode cX7_hold 82 = .ok (.iconst 0, 1) := by decide +kernel
theorem dX7_hold_83 : decode cX7_hold 83 = .ok (.ireturn, 1) := by decide +kernel
theorem dX7_hold_84 : decode cX7_hold 84 = .ok (.bipush (-2), 2) := by decide +kernel
theorem dX7_hold_86 : decode cX7_hold 86 = .ok (.ireturn, 1) := by decide +kernel
theorem dX7_line_0 : decode cX7_line 0 = .ok (.aload_n 0, 1) := by decide +kernel
theorem dX7_line_1 : decode cX7_line 1 = .ok (.iload_n 1, 1) := by decide +kernel
theorem dX7_line_2 : decode cX7_line 2 = .ok (.invokevirtual 243, 3) := by decide +kernel
theorem dX7_line_5 : decode cX7_line 5 = .ok (.astore 4, 2) := by decide +kernel
theorem dX7_line_7 : decode cX7_line 7 = .ok (.aload 4, 2) := by decide +kernel
theorem dX7_line_9 : decode cX7_line 9 = .ok (.ifnull 16, 3) := by decide +kernel
theorem dX7_line_12 : decode cX7_line 12 = .ok (.iload_n 2, 1) := by decide +kernel
theorem dX7_line_13 : decode cX7_line 13 = .ok (.ifCond .lt 12, 3) := by decide +kernel
theorem dX7_line_16 : decode cX7_line 16 = .ok (.iload_n 2, 1) := by decide +kernel
theorem dX7_line_17 : decode cX7_line 17 = .ok (.aload 4, 2) := by decide +kernel
theorem dX7_line_19 : decode cX7_line 19 = .ok (.getfield 247, 3) := by decide +kernel
theorem dX7_line_22 : decode cX7_line 22 = .ok (.if_icmp .lt 7, 3) := by decide +kernel
theorem dX7_line_25 : decode cX7_line 25 = .ok (.ldc2_w 167, 3) := by decide +kernel
theorem dX7_line_28 : decode cX7_line 28 = .ok (.lreturn, 1) := by decide +kernel
theorem dX7_line_29 : decode cX7_line 29 = .ok (.iload_n 3, 1) := by decide +kernel
theorem dX7_line_30 : decode cX7_line 30 = .ok (.tableswitch 64 0 3 #[30, 39, 48, 56], 30) := by decide +kernel
theorem dX7_line_60 : decode cX7_line 60 = .ok (.aload 4, 2) := by decide +kernel
theorem dX7_line_62 : decode cX7_line 62 = .ok (.getfield 250, 3) := by decide +kernel
theorem dX7_line_65 : decode cX7_line 65 = .ok (.iload_n 2, 1) := by decide +kernel
theorem dX7_line_66 : decode cX7_line 66 = .ok (.iaload, 1) := by decide +kernel
theorem dX7_line_67 : decode cX7_line 67 = .ok (.i2l, 1) := by decide +kernel
theorem dX7_line_68 : decode cX7_line 68 = .ok (.lreturn, 1) := by decide +kernel
theorem dX7_line_69 : decode cX7_line 69 = .ok (.aload 4, 2) := by decide +kernel
theorem dX7_line_71 : decode cX7_line 71 = .ok (.getfield 253, 3) := by decide +kernel
theorem dX7_line_74 : decode cX7_line 74 = .ok (.iload_n 2, 1) := by decide +kernel
theorem dX7_line_75 : decode cX7_line 75 = .ok (.iaload, 1) := by decide +kernel
theorem dX7_line_76 : decode cX7_line 76 = .ok (.i2l, 1) := by decide +kernel
theorem dX7_line_77 : decode cX7_line 77 = .ok (.lreturn, 1) := by decide +kernel
theorem dX7_line_78 : decode cX7_line 78 = .ok (.aload 4, 2) := by decide +kernel
theorem dX7_line_80 : decode cX7_line 80 = .ok (.getfield 256, 3) := by decide +kernel
theorem dX7_line_83 : decode cX7_line 83 = .ok (.iload_n 2, 1) := by decide +kernel
theorem dX7_line_84 : decode cX7_line 84 = .ok (.laload, 1) := by decide +kernel
theorem dX7_line_85 : decode cX7_line 85 = .ok (.lreturn, 1) := by decide +kernel
theorem dX7_line_86 : decode cX7_line 86 = .ok (.aload 4, 2) := by decide +kernel
theorem dX7_line_88 : decode cX7_line 88 = .ok (.getfield 260, 3) := by decide +kernel
theorem dX7_line_91 : decode cX7_line 91 = .ok (.iload_n 2, 1) := by decide +kernel
theorem dX7_line_92 : decode cX7_line 92 = .ok (.laload, 1) := by decide +kernel
theorem dX7_line_93 : decode cX7_line 93 = .ok (.lreturn, 1) := by decide +kernel
theorem dX7_line_94 : decode cX7_line 94 = .ok (.ldc2_w 167, 3) := by decide +kernel
theorem dX7_line_97 : decode cX7_line 97 = .ok (.lreturn, 1) := by decide +kernel
theorem dX7_invoice_0 : decode cX7_invoice 0 = .ok (.aload_n 0, 1) := by decide +kernel
theorem dX7_invoice_1 : decode cX7_invoice 1 = .ok (.iload_n 1, 1) := by decide +kernel
theorem dX7_invoice_2 : decode cX7_invoice 2 = .ok (.invokevirtual 243, 3) := by decide +kernel
theorem dX7_invoice_5 : decode cX7_invoice 5 = .ok (.astore_n 3, 1) := by decide +kernel
theorem dX7_invoice_6 : decode cX7_invoice 6 = .ok (.aload_n 3, 1) := by decide +kernel
theorem dX7_invoice_7 : decode cX7_invoice 7 = .ok (.ifnonnull 7, 3) := by decide +kernel
theorem dX7_invoice_10 : decode cX7_invoice 10 = .ok (.ldc2_w 167, 3) := by decide +kernel
theorem dX7_invoice_13 : decode cX7_invoice 13 = .ok (.lreturn, 1) := by decide +kernel
theorem dX7_invoice_14 : decode cX7_invoice 14 = .ok (.iload_n 2, 1) := by decide +kernel
theorem dX7_invoice_15 : decode cX7_invoice 15 = .ok (.tableswitch 52 0 3 #[29, 35, 41, 47], 29) := by decide +kernel
theorem dX7_invoice_44 : decode cX7_invoice 44 = .ok (.aload_n 3, 1) := by decide +kernel
theorem dX7_invoice_45 : decode cX7_invoice 45 = .ok (.getfield 263, 3) := by decide +kernel
theorem dX7_invoice_48 : decode cX7_invoice 48 = .ok (.i2l, 1) := by decide +kernel
theorem dX7_invoice_49 : decode cX7_invoice 49 = .ok (.lreturn, 1) := by decide +kernel
theorem dX7_invoice_50 : decode cX7_invoice 50 = .ok (.aload_n 3, 1) := by decide +kernel
theorem dX7_invoice_51 : decode cX7_invoice 51 = .ok (.getfield 266, 3) := by decide +kernel
theorem dX7_invoice_54 : decode cX7_invoice 54 = .ok (.i2l, 1) := by decide +kernel
theorem dX7_invoice_55 : decode cX7_invoice 55 = .ok (.lreturn, 1) := by decide +kernel
theorem dX7_invoice_56 : decode cX7_invoice 56 = .ok (.aload_n 3, 1) := by decide +kernel
theorem dX7_invoice_57 : decode cX7_invoice 57 = .ok (.getfield 247, 3) := by decide +kernel
theorem dX7_invoice_60 : decode cX7_invoice 60 = .ok (.i2l, 1) := by decide +kernel
theorem dX7_invoice_61 : decode cX7_invoice 61 = .ok (.lreturn, 1) := by decide +kernel
theorem dX7_invoice_62 : decode cX7_invoice 62 = .ok (.aload_n 3, 1) := by decide +kernel
theorem dX7_invoice_63 : decode cX7_invoice 63 = .ok (.getfield 269, 3) := by decide +kernel
theorem dX7_invoice_66 : decode cX7_invoice 66 = .ok (.lreturn, 1) := by decide +kernel
theorem dX7_invoice_67 : decode cX7_invoice 67 = .ok (.ldc2_w 167, 3) := by decide +kernel
theorem dX7_invoice_70 : decode cX7_invoice 70 = .ok (.lreturn, 1) := by decide +kernel
theorem dX7_left_0 : decode cX7_left 0 = .ok (.aload_n 0, 1) := by decide +kernel
theorem dX7_left_1 : decode cX7_left 1 = .ok (.iload_n 1, 1) := by decide +kernel
theorem dX7_left_2 : decode cX7_left 2 = .ok (.invokevirtual 43, 3) := by decide +kernel
theorem dX7_left_5 : decode cX7_left 5 = .ok (.astore_n 3, 1) := by decide +kernel
theorem dX7_left_6 : decode cX7_left 6 = .ok (.aload_n 3, 1) := by decide +kernel
theorem dX7_left_7 : decode cX7_left 7 = .ok (.ifnull 18, 3) := by decide +kernel
theorem dX7_left_10 : decode cX7_left 10 = .ok (.iload_n 2, 1) := by decide +kernel
theorem dX7_left_11 : decode cX7_left 11 = .ok (.ifCond .lt 14, 3) := by decide +kernel
theorem dX7_left_14 : decode cX7_left 14 = .ok (.iload_n 2, 1) := by decide +kernel
theorem dX7_left_15 : decode cX7_left 15 = .ok (.aload_n 3, 1) := by decide +kernel
theorem dX7_left_16 : decode cX7_left 16 = .ok (.getfield 194, 3) := by decide +kernel
theorem dX7_left_19 : decode cX7_left 19 = .ok (.getfield 272, 3) := by decide +kernel
theorem dX7_left_22 : decode cX7_left 22 = .ok (.if_icmp .lt 7, 3) := by decide +kernel
theorem dX7_left_25 : decode cX7_left 25 = .ok (.ldc2_w 167, 3) := by decide +kernel
theorem dX7_left_28 : decode cX7_left 28 = .ok (.lreturn, 1) := by decide +kernel
theorem dX7_left_29 : decode cX7_left 29 = .ok (.aload_n 3, 1) := by decide +kernel
theorem dX7_left_30 : decode cX7_left 30 = .ok (.getfield 194, 3) := by decide +kernel
theorem dX7_left_33 : decode cX7_left 33 = .ok (.getfield 275, 3) := by decide +kernel
theorem dX7_left_36 : decode cX7_left 36 = .ok (.iload_n 2, 1) := by decide +kernel
theorem dX7_left_37 : decode cX7_left 37 = .ok (.laload, 1) := by decide +kernel
theorem dX7_left_38 : decode cX7_left 38 = .ok (.lreturn, 1) := by decide +kernel
theorem dX7_count_0 : decode cX7_count 0 = .ok (.iload_n 1, 1) := by decide +kernel
theorem dX7_count_1 : decode cX7_count 1 = .ok (.tableswitch 63 0 4 #[35, 40, 45, 53, 58], 35) := by decide +kernel
theorem dX7_count_36 : decode cX7_count 36 = .ok (.aload_n 0, 1) := by decide +kernel
theorem dX7_count_37 : decode cX7_count 37 = .ok (.getfield 65, 3) := by decide +kernel
theorem dX7_count_40 : decode cX7_count 40 = .ok (.ireturn, 1) := by decide +kernel
theorem dX7_count_41 : decode cX7_count 41 = .ok (.aload_n 0, 1) := by decide +kernel
theorem dX7_count_42 : decode cX7_count 42 = .ok (.getfield 59, 3) := by decide +kernel
theorem dX7_count_45 : decode cX7_count 45 = .ok (.ireturn, 1) := by decide +kernel
theorem dX7_count_46 : decode cX7_count 46 = .ok (.aload_n 0, 1) := by decide +kernel
theorem dX7_count_47 : decode cX7_count 47 = .ok (.getfield 36, 3) := by decide +kernel
theorem dX7_count_50 : decode cX7_count 50 = .ok (.getfield 278, 3) := by decide +kernel
theorem dX7_count_53 : decode cX7_count 53 = .ok (.ireturn, 1) := by decide +kernel
theorem dX7_count_54 : decode cX7_count 54 = .ok (.aload_n 0, 1) := by decide +kernel
theorem dX7_count_55 : decode cX7_count 55 = .ok (.getfield 99, 3) := by decide +kernel
theorem dX7_count_58 : decode cX7_count 58 = .ok (.ireturn, 1) := by decide +kernel
theorem dX7_count_59 : decode cX7_count 59 = .ok (.aload_n 0, 1) := by decide +kernel
theorem dX7_count_60 : decode cX7_count 60 = .ok (.getfield 204, 3) := by decide +kernel
theorem dX7_count_63 : decode cX7_count 63 = .ok (.ireturn, 1) := by decide +kernel
theorem dX7_count_64 : decode cX7_count 64 = .ok (.bipush (-2), 2) := by decide +kernel
theorem dX7_count_66 : decode cX7_count 66 = .ok (.ireturn, 1) := by decide +kernel
theorem dX7_closed_0 : decode cX7_closed 0 = .ok (.aload_n 0, 1) := by decide +kernel
theorem dX7_closed_1 : decode cX7_closed 1 = .ok (.iload_n 1, 1) := by decide +kernel
theorem dX7_closed_2 : decode cX7_closed 2 = .ok (.invokevirtual 43, 3) := by decide +kernel
theorem dX7_closed_5 : decode cX7_closed 5 = .ok (.astore_n 2, 1) := by decide +kernel
theorem dX7_closed_6 : decode cX7_closed 6 = .ok (.aload_n 2, 1) := by decide +kernel
theorem dX7_closed_7 : decode cX7_closed 7 = .ok (.ifnonnull 8, 3) := by decide +kernel
theorem dX7_closed_10 : decode cX7_closed 10 = .ok (.bipush (-2), 2) := by decide +kernel
theorem dX7_closed_12 : decode cX7_closed 12 = .ok (.goto 7, 3) := by decide +kernel
theorem dX7_closed_15 : decode cX7_closed 15 = .ok (.aload_n 2, 1) := by decide +kernel
theorem dX7_closed_16 : decode cX7_closed 16 = .ok (.getfield 191, 3) := by decide +kernel
theorem dX7_closed_19 : decode cX7_closed 19 = .ok (.ireturn, 1) := by decide +kernel
theorem dX7_isResource_0 : decode cX7_isResource 0 = .ok (.iload_n 0, 1) := by decide +kernel
theorem dX7_isResource_1 : decode cX7_isResource 1 = .ok (.ifCond .lt 12, 3) := by decide +kernel
theorem dX7_isResource_4 : decode cX7_isResource 4 = .ok (.iload_n 0, 1) := by decide +kernel
theorem dX7_isResource_5 : decode cX7_isResource 5 = .ok (.iconst 4, 1) := by decide +kernel
theorem dX7_isResource_6 : decode cX7_isResource 6 = .ok (.if_icmp .ge 7, 3) := by decide +kernel
theorem dX7_isResource_9 : decode cX7_isResource 9 = .ok (.iconst 1, 1) := by decide +kernel
theorem dX7_isResource_10 : decode cX7_isResource 10 = .ok (.goto 4, 3) := by decide +kernel
theorem dX7_isResource_13 : decode cX7_isResource 13 = .ok (.iconst 0, 1) := by decide +kernel
theorem dX7_isResource_14 : decode cX7_isResource 14 = .ok (.ireturn, 1) := by decide +kernel
theorem dX7_isPeriod_0 : decode cX7_isPeriod 0 = .ok (.iload_n 0, 1) := by decide +kernel
theorem dX7_isPeriod_1 : decode cX7_isPeriod 1 = .ok (.ifCond .lt 13, 3) := by decide +kernel
theorem dX7_isPeriod_4 : decode cX7_isPeriod 4 = .ok (.iload_n 0, 1) := by decide +kernel
theorem dX7_isPeriod_5 : decode cX7_isPeriod 5 = .ok (.bipush 100, 2) := by decide +kernel
theorem dX7_isPeriod_7 : decode cX7_isPeriod 7 = .ok (.if_icmp .ge 7, 3) := by decide +kernel
theorem dX7_isPeriod_10 : decode cX7_isPeriod 10 = .ok (.iconst 1, 1) := by decide +kernel
theorem dX7_isPeriod_11 : decode cX7_isPeriod 11 = .ok (.goto 4, 3) := by decide +kernel
theorem dX7_isPeriod_14 : decode cX7_isPeriod 14 = .ok (.iconst 0, 1) := by decide +kernel
theorem dX7_isPeriod_15 : decode cX7_isPeriod 15 = .ok (.ireturn, 1) := by decide +kernel
theorem dX7_isUnits_0 : decode cX7_isUnits 0 = .ok (.iload_n 0, 1) := by decide +kernel
theorem dX7_isUnits_1 : decode cX7_isUnits 1 = .ok (.iconst 1, 1) := by decide +kernel
theorem dX7_isUnits_2 : decode cX7_isUnits 2 = .ok (.if_icmp .lt 13, 3) := by decide +kernel
theorem dX7_isUnits_5 : decode cX7_isUnits 5 = .ok (.iload_n 0, 1) := by decide +kernel
theorem dX7_isUnits_6 : decode cX7_isUnits 6 = .ok (.ldc 154, 2) := by decide +kernel
theorem dX7_isUnits_8 : decode cX7_isUnits 8 = .ok (.if_icmp .gt 7, 3) := by decide +kernel
theorem dX7_isUnits_11 : decode cX7_isUnits 11 = .ok (.iconst 1, 1) := by decide +kernel
theorem dX7_isUnits_12 : decode cX7_isUnits 12 = .ok (.goto 4, 3) := by decide +kernel
theorem dX7_isUnits_15 : decode cX7_isUnits 15 = .ok (.iconst 0, 1) := by decide +kernel
theorem dX7_isUnits_16 : decode cX7_isUnits 16 = .ok (.ireturn, 1) := by decide +kernel
theorem dX7_isRate_0 : decode cX7_isRate 0 = .ok (.iload_n 0, 1) := by decide +kernel
theorem dX7_isRate_1 : decode cX7_isRate 1 = .ok (.ifCond .lt 14, 3) := by decide +kernel
theorem dX7_isRate_4 : decode cX7_isRate 4 = .ok (.iload_n 0, 1) := by decide +kernel
theorem dX7_isRate_5 : decode cX7_isRate 5 = .ok (.sipush 10000, 3) := by decide +kernel
theorem dX7_isRate_8 : decode cX7_isRate 8 = .ok (.if_icmp .gt 7, 3) := by decide +kernel
theorem dX7_isRate_11 : decode cX7_isRate 11 = .ok (.iconst 1, 1) := by decide +kernel
theorem dX7_isRate_12 : decode cX7_isRate 12 = .ok (.goto 4, 3) := by decide +kernel
theorem dX7_isRate_15 : decode cX7_isRate 15 = .ok (.iconst 0, 1) := by decide +kernel
theorem dX7_isRate_16 : decode cX7_isRate 16 = .ok (.ireturn, 1) := by decide +kernel
theorem dX7_tenantAt_0 : decode cX7_tenantAt 0 = .ok (.iload_n 1, 1) := by decide +kernel
theorem dX7_tenantAt_1 : decode cX7_tenantAt 1 = .ok (.ifCond .lt 18, 3) := by decide +kernel
theorem dX7_tenantAt_4 : decode cX7_tenantAt 4 = .ok (.iload_n 1, 1) := by decide +kernel
theorem dX7_tenantAt_5 : decode cX7_tenantAt 5 = .ok (.bipush 6, 2) := by decide +kernel
theorem dX7_tenantAt_7 : decode cX7_tenantAt 7 = .ok (.if_icmp .ge 12, 3) := by decide +kernel
theorem dX7_tenantAt_10 : decode cX7_tenantAt 10 = .ok (.aload_n 0, 1) := by decide +kernel
theorem dX7_tenantAt_11 : decode cX7_tenantAt 11 = .ok (.getfield 11, 3) := by decide +kernel
theorem dX7_tenantAt_14 : decode cX7_tenantAt 14 = .ok (.iload_n 1, 1) := by decide +kernel
theorem dX7_tenantAt_15 : decode cX7_tenantAt 15 = .ok (.aaload, 1) := by decide +kernel
theorem dX7_tenantAt_16 : decode cX7_tenantAt 16 = .ok (.goto 4, 3) := by decide +kernel
theorem dX7_tenantAt_19 : decode cX7_tenantAt 19 = .ok (.aconst_null, 1) := by decide +kernel
theorem dX7_tenantAt_20 : decode cX7_tenantAt 20 = .ok (.areturn, 1) := by decide +kernel
theorem dX7_accountAt_0 : decode cX7_accountAt 0 = .ok (.iload_n 1, 1) := by decide +kernel
theorem dX7_accountAt_1 : decode cX7_accountAt 1 = .ok (.ifCond .lt 20, 3) := by decide +kernel
theorem dX7_accountAt_4 : decode cX7_accountAt 4 = .ok (.iload_n 1, 1) := by decide +kernel
theorem dX7_accountAt_5 : decode cX7_accountAt 5 = .ok (.aload_n 0, 1) := by decide +kernel
theorem dX7_accountAt_6 : decode cX7_accountAt 6 = .ok (.getfield 59, 3) := by decide +kernel
theorem dX7_accountAt_9 : decode cX7_accountAt 9 = .ok (.if_icmp .ge 12, 3) := by decide +kernel
theorem dX7_accountAt_12 : decode cX7_accountAt 12 = .ok (.aload_n 0, 1) := by decide +kernel
theorem dX7_accountAt_13 : decode cX7_accountAt 13 = .ok (.getfield 17, 3) := by decide +kernel
theorem dX7_accountAt_16 : decode cX7_accountAt 16 = .ok (.iload_n 1, 1) := by decide +kernel
theorem dX7_accountAt_17 : decode cX7_accountAt 17 = .ok (.aaload, 1) := by decide +kernel
theorem dX7_accountAt_18 : decode cX7_accountAt 18 = .ok (.goto 4, 3) := by decide +kernel
theorem dX7_accountAt_21 : decode cX7_accountAt 21 = .ok (.aconst_null, 1) := by decide +kernel
theorem dX7_accountAt_22 : decode cX7_accountAt 22 = .ok (.areturn, 1) := by decide +kernel
theorem dX7_holdAt_0 : decode cX7_holdAt 0 = .ok (.iload_n 1, 1) := by decide +kernel
theorem dX7_holdAt_1 : decode cX7_holdAt 1 = .ok (.ifCond .lt 20, 3) := by decide +kernel
theorem dX7_holdAt_4 : decode cX7_holdAt 4 = .ok (.iload_n 1, 1) := by decide +kernel
theorem dX7_holdAt_5 : decode cX7_holdAt 5 = .ok (.aload_n 0, 1) := by decide +kernel
theorem dX7_holdAt_6 : decode cX7_holdAt 6 = .ok (.getfield 102, 3) := by decide +kernel
theorem dX7_holdAt_9 : decode cX7_holdAt 9 = .ok (.if_icmp .ge 12, 3) := by decide +kernel
theorem dX7_holdAt_12 : decode cX7_holdAt 12 = .ok (.aload_n 0, 1) := by decide +kernel
theorem dX7_holdAt_13 : decode cX7_holdAt 13 = .ok (.getfield 23, 3) := by decide +kernel
theorem dX7_holdAt_16 : decode cX7_holdAt 16 = .ok (.iload_n 1, 1) := by decide +kernel
theorem dX7_holdAt_17 : decode cX7_holdAt 17 = .ok (.aaload, 1) := by decide +kernel
theorem dX7_holdAt_18 : decode cX7_holdAt 18 = .ok (.goto 4, 3) := by decide +kernel
theorem dX7_holdAt_21 : decode cX7_holdAt 21 = .ok (.aconst_null, 1) := by decide +kernel
theorem dX7_holdAt_22 : decode cX7_holdAt 22 = .ok (.areturn, 1) := by decide +kernel
theorem dX7_openHoldAt_0 : decode cX7_openHoldAt 0 = .ok (.aload_n 0, 1) := by decide +kernel
theorem dX7_openHoldAt_1 : decode cX7_openHoldAt 1 = .ok (.iload_n 1, 1) := by decide +kernel
theorem dX7_openHoldAt_2 : decode cX7_openHoldAt 2 = .ok (.invokevirtual 233, 3) := by decide +kernel
theorem dX7_openHoldAt_5 : decode cX7_openHoldAt 5 = .ok (.astore_n 2, 1) := by decide +kernel
theorem dX7_openHoldAt_6 : decode cX7_openHoldAt 6 = .ok (.aload_n 2, 1) := by decide +kernel
theorem dX7_openHoldAt_7 : decode cX7_openHoldAt 7 = .ok (.ifnull 14, 3) := by decide +kernel
theorem dX7_openHoldAt_10 : decode cX7_openHoldAt 10 = .ok (.aload_n 2, 1) := by decide +kernel
theorem dX7_openHoldAt_11 : decode cX7_openHoldAt 11 = .ok (.getfield 239, 3) := by decide +kernel
theorem dX7_openHoldAt_14 : decode cX7_openHoldAt 14 = .ok (.ifCond .eq 7, 3) := by decide +kernel
theorem dX7_openHoldAt_17 : decode cX7_openHoldAt 17 = .ok (.aload_n 2, 1) := by decide +kernel
theorem dX7_openHoldAt_18 : decode cX7_openHoldAt 18 = .ok (.goto 4, 3) := by decide +kernel
theorem dX7_openHoldAt_21 : decode cX7_openHoldAt 21 = .ok (.aconst_null, 1) := by decide +kernel
theorem dX7_openHoldAt_22 : decode cX7_openHoldAt 22 = .ok (.areturn, 1) := by decide +kernel
theorem dX7_invoiceAt_0 : decode cX7_invoiceAt 0 = .ok (.iload_n 1, 1) := by decide +kernel
theorem dX7_invoiceAt_1 : decode cX7_invoiceAt 1 = .ok (.ifCond .lt 20, 3) := by decide +kernel
theorem dX7_invoiceAt_4 : decode cX7_invoiceAt 4 = .ok (.iload_n 1, 1) := by decide +kernel
theorem dX7_invoiceAt_5 : decode cX7_invoiceAt 5 = .ok (.aload_n 0, 1) := by decide +kernel
theorem dX7_invoiceAt_6 : decode cX7_invoiceAt 6 = .ok (.getfield 204, 3) := by decide +kernel
theorem dX7_invoiceAt_9 : decode cX7_invoiceAt 9 = .ok (.if_icmp .ge 12, 3) := by decide +kernel
theorem dX7_invoiceAt_12 : decode cX7_invoiceAt 12 = .ok (.aload_n 0, 1) := by decide +kernel
theorem dX7_invoiceAt_13 : decode cX7_invoiceAt 13 = .ok (.getfield 29, 3) := by decide +kernel
theorem dX7_invoiceAt_16 : decode cX7_invoiceAt 16 = .ok (.iload_n 1, 1) := by decide +kernel
theorem dX7_invoiceAt_17 : decode cX7_invoiceAt 17 = .ok (.aaload, 1) := by decide +kernel
theorem dX7_invoiceAt_18 : decode cX7_invoiceAt 18 = .ok (.goto 4, 3) := by decide +kernel
theorem dX7_invoiceAt_21 : decode cX7_invoiceAt 21 = .ok (.aconst_null, 1) := by decide +kernel
theorem dX7_invoiceAt_22 : decode cX7_invoiceAt 22 = .ok (.areturn, 1) := by decide +kernel
theorem dX7_pricesAt_0 : decode cX7_pricesAt 0 = .ok (.aload_n 0, 1) := by decide +kernel
theorem dX7_pricesAt_1 : decode cX7_pricesAt 1 = .ok (.iload_n 1, 1) := by decide +kernel
theorem dX7_pricesAt_2 : decode cX7_pricesAt 2 = .ok (.invokevirtual 43, 3) := by decide +kernel
theorem dX7_pricesAt_5 : decode cX7_pricesAt 5 = .ok (.astore_n 3, 1) := by decide +kernel
theorem dX7_pricesAt_6 : decode cX7_pricesAt 6 = .ok (.aload_n 3, 1) := by decide +kernel
theorem dX7_pricesAt_7 : decode cX7_pricesAt 7 = .ok (.ifnull 19, 3) := by decide +kernel
theorem dX7_pricesAt_10 : decode cX7_pricesAt 10 = .ok (.iload_n 2, 1) := by decide +kernel
theorem dX7_pricesAt_11 : decode cX7_pricesAt 11 = .ok (.invokestatic 75, 3) := by decide +kernel
theorem dX7_pricesAt_14 : decode cX7_pricesAt 14 = .ok (.ifCond .eq 12, 3) := by decide +kernel
theorem dX7_pricesAt_17 : decode cX7_pricesAt 17 = .ok (.aload_n 3, 1) := by decide +kernel
theorem dX7_pricesAt_18 : decode cX7_pricesAt 18 = .ok (.getfield 281, 3) := by decide +kernel
theorem dX7_pricesAt_21 : decode cX7_pricesAt 21 = .ok (.iload_n 2, 1) := by decide +kernel
theorem dX7_pricesAt_22 : decode cX7_pricesAt 22 = .ok (.aaload, 1) := by decide +kernel
theorem dX7_pricesAt_23 : decode cX7_pricesAt 23 = .ok (.goto 4, 3) := by decide +kernel
theorem dX7_pricesAt_26 : decode cX7_pricesAt 26 = .ok (.aconst_null, 1) := by decide +kernel
theorem dX7_pricesAt_27 : decode cX7_pricesAt 27 = .ok (.areturn, 1) := by decide +kernel
theorem dX7_countUnits_0 : decode cX7_countUnits 0 = .ok (.iload 4, 2) := by decide +kernel
theorem dX7_countUnits_2 : decode cX7_countUnits 2 = .ok (.aload_n 1, 1) := by decide +kernel
theorem dX7_countUnits_3 : decode cX7_countUnits 3 = .ok (.getfield 51, 3) := by decide +kernel
theorem dX7_countUnits_6 : decode cX7_countUnits 6 = .ok (.getfield 191, 3) := by decide +kernel
theorem dX7_countUnits_9 : decode cX7_countUnits 9 = .ok (.if_icmp .ge 7, 3) := by decide +kernel
theorem dX7_countUnits_12 : decode cX7_countUnits 12 = .ok (.iconst 1, 1) := by decide +kernel
theorem dX7_countUnits_13 : decode cX7_countUnits 13 = .ok (.goto 4, 3) := by decide +kernel
theorem dX7_countUnits_16 : decode cX7_countUnits 16 = .ok (.iconst 0, 1) := by decide +kernel
theorem dX7_countUnits_17 : decode cX7_countUnits 17 = .ok (.istore 5, 2) := by decide +kernel
theorem dX7_countUnits_19 : decode cX7_countUnits 19 = .ok (.iload 5, 2) := by decide +kernel
theorem dX7_countUnits_21 : decode cX7_countUnits 21 = .ok (.ifCond .eq 23, 3) := by decide +kernel
theorem dX7_countUnits_24 : decode cX7_countUnits 24 = .ok (.aload_n 1, 1) := by decide +kernel
theorem dX7_countUnits_25 : decode cX7_countUnits 25 = .ok (.getfield 51, 3) := by decide +kernel
theorem dX7_countUnits_28 : decode cX7_countUnits 28 = .ok (.iload_n 2, 1) := by decide +kernel
theorem dX7_countUnits_29 : decode cX7_countUnits 29 = .ok (.aload_n 0, 1) := by decide +kernel
theorem dX7_countUnits_30 : decode cX7_countUnits 30 = .ok (.aload_n 1, 1) := by decide +kernel
theorem dX7_countUnits_31 : decode cX7_countUnits 31 = .ok (.getfield 51, 3) := by decide +kernel
theorem dX7_countUnits_34 : decode cX7_countUnits 34 = .ok (.iload_n 2, 1) := by decide +kernel
theorem dX7_countUnits_35 : decode cX7_countUnits 35 = .ok (.iload 4, 2) := by decide +kernel
theorem dX7_countUnits_37 : decode cX7_countUnits 37 = .ok (.invokevirtual 285, 3) := by decide +kernel
theorem dX7_countUnits_40 : decode cX7_countUnits 40 = .ok (.iload_n 3, 1) := by decide +kernel
theorem dX7_countUnits_41 : decode cX7_countUnits 41 = .ok (.invokevirtual 289, 3) := by decide +kernel
theorem dX7_countUnits_44 : decode cX7_countUnits 44 = .ok (.aload_n 1, 1) := by decide +kernel
theorem dX7_countUnits_45 : decode cX7_countUnits 45 = .ok (.iload_n 2, 1) := by decide +kernel
theorem dX7_countUnits_46 : decode cX7_countUnits 46 = .ok (.iload 4, 2) := by decide +kernel
theorem dX7_countUnits_48 : decode cX7_countUnits 48 = .ok (.iload_n 3, 1) := by decide +kernel
theorem dX7_countUnits_49 : decode cX7_countUnits 49 = .ok (.invokevirtual 293, 3) := by decide +kernel
theorem dX7_countUnits_52 : decode cX7_countUnits 52 = .ok (.iload 5, 2) := by decide +kernel
theorem dX7_countUnits_54 : decode cX7_countUnits 54 = .ok (.ifCond .eq 7, 3) := by decide +kernel
theorem dX7_countUnits_57 : decode cX7_countUnits 57 = .ok (.iconst 1, 1) := by decide +kernel
theorem dX7_countUnits_58 : decode cX7_countUnits 58 = .ok (.goto 4, 3) := by decide +kernel
theorem dX7_countUnits_61 : decode cX7_countUnits 61 = .ok (.iconst 0, 1) := by decide +kernel
theorem dX7_countUnits_62 : decode cX7_countUnits 62 = .ok (.ireturn, 1) := by decide +kernel
theorem dX7_quantityOf_0 : decode cX7_quantityOf 0 = .ok (.lconst 0, 1) := by decide +kernel
theorem dX7_quantityOf_1 : decode cX7_quantityOf 1 = .ok (.lstore 4, 2) := by decide +kernel
theorem dX7_quantityOf_3 : decode cX7_quantityOf 3 = .ok (.iconst 0, 1) := by decide +kernel
theorem dX7_quantityOf_4 : decode cX7_quantityOf 4 = .ok (.istore 6, 2) := by decide +kernel
theorem dX7_quantityOf_6 : decode cX7_quantityOf 6 = .ok (.iload 6, 2) := by decide +kernel
theorem dX7_quantityOf_8 : decode cX7_quantityOf 8 = .ok (.aload_n 0, 1) := by decide +kernel
theorem dX7_quantityOf_9 : decode cX7_quantityOf 9 = .ok (.getfield 59, 3) := by decide +kernel
theorem dX7_quantityOf_12 : decode cX7_quantityOf 12 = .ok (.if_icmp .ge 60, 3) := by decide +kernel
theorem dX7_quantityOf_15 : decode cX7_quantityOf 15 = .ok (.aload_n 0, 1) := by decide +kernel
theorem dX7_quantityOf_16 : decode cX7_quantityOf 16 = .ok (.getfield 17, 3) := by decide +kernel
theorem dX7_quantityOf_19 : decode cX7_quantityOf 19 = .ok (.iload 6, 2) := by decide +kernel
theorem dX7_quantityOf_21 : decode cX7_quantityOf 21 = .ok (.aaload, 1) := by decide +kernel
theorem dX7_quantityOf_22 : decode cX7_quantityOf 22 = .ok (.astore 7, 2) := by decide +kernel
theorem dX7_quantityOf_24 : decode cX7_quantityOf 24 = .ok (.aload 7, 2) := by decide +kernel
theorem dX7_quantityOf_26 : decode cX7_quantityOf 26 = .ok (.ifnull 40, 3) := by decide +kernel
theorem dX7_quantityOf_29 : decode cX7_quantityOf 29 = .ok (.aload 7, 2) := by decide +kernel
theorem dX7_quantityOf_31 : decode cX7_quantityOf 31 = .ok (.getfield 297, 3) := by decide +kernel
theorem dX7_quantityOf_34 : decode cX7_quantityOf 34 = .ok (.ifnonnull 32, 3) := by decide +kernel
theorem dX7_quantityOf_37 : decode cX7_quantityOf 37 = .ok (.aload 7, 2) := by decide +kernel
theorem dX7_quantityOf_39 : decode cX7_quantityOf 39 = .ok (.getfield 51, 3) := by decide +kernel
theorem dX7_quantityOf_42 : decode cX7_quantityOf 42 = .ok (.getfield 55, 3) := by decide +kernel
theorem dX7_quantityOf_45 : decode cX7_quantityOf 45 = .ok (.aload_n 1, 1) := by decide +kernel
theorem dX7_quantityOf_46 : decode cX7_quantityOf 46 = .ok (.getfield 55, 3) := by decide +kernel
theorem dX7_quantityOf_49 : decode cX7_quantityOf 49 = .ok (.if_icmp .ne 17, 3) := by decide +kernel
theorem dX7_quantityOf_52 : decode cX7_quantityOf 52 = .ok (.lload 4, 2) := by decide +kernel
theorem dX7_quantityOf_54 : decode cX7_quantityOf 54 = .ok (.aload 7, 2) := by decide +kernel
theorem dX7_quantityOf_56 : decode cX7_quantityOf 56 = .ok (.getfield 226, 3) := by decide +kernel
theorem dX7_quantityOf_59 : decode cX7_quantityOf 59 = .ok (.iload_n 2, 1) := by decide +kernel
theorem dX7_quantityOf_60 : decode cX7_quantityOf 60 = .ok (.aaload, 1) := by decide +kernel
theorem dX7_quantityOf_61 : decode cX7_quantityOf 61 = .ok (.iload_n 3, 1) := by decide +kernel
theorem dX7_quantityOf_62 : decode cX7_quantityOf 62 = .ok (.laload, 1) := by decide +kernel
theorem dX7_quantityOf_63 : decode cX7_quantityOf 63 = .ok (.ladd, 1) := by decide +kernel
theorem dX7_quantityOf_64 : decode cX7_quantityOf 64 = .ok (.lstore 4, 2) := by decide +kernel
theorem dX7_quantityOf_66 : decode cX7_quantityOf 66 = .ok (.iinc 6 1, 3) := by decide +kernel
theorem dX7_quantityOf_69 : decode cX7_quantityOf 69 = .ok (.goto (-63), 3) := by decide +kernel
theorem dX7_quantityOf_72 : decode cX7_quantityOf 72 = .ok (.lload 4, 2) := by decide +kernel
theorem dX7_quantityOf_74 : decode cX7_quantityOf 74 = .ok (.lreturn, 1) := by decide +kernel
theorem dX7_billUsage_0 : decode cX7_billUsage 0 = .ok (.iconst 0, 1) := by decide +kernel
theorem dX7_billUsage_1 : decode cX7_billUsage 1 = .ok (.istore_n 3, 1) := by decide +kernel
theorem dX7_billUsage_2 : decode cX7_billUsage 2 = .ok (.iload_n 3, 1) := by decide +kernel
theorem dX7_billUsage_3 : decode cX7_billUsage 3 = .ok (.iconst 4, 1) := by decide +kernel
theorem dX7_billUsage_4 : decode cX7_billUsage 4 = .ok (.if_icmp .ge 47, 3) := by decide +kernel
theorem dX7_billUsage_7 : decode cX7_billUsage 7 = .ok (.aload_n 0, 1) := by decide +kernel
theorem dX7_billUsage_8 : decode cX7_billUsage 8 = .ok (.aload_n 2, 1) := by decide +kernel
theorem dX7_billUsage_9 : decode cX7_billUsage 9 = .ok (.iload_n 3, 1) := by decide +kernel
theorem dX7_billUsage_10 : decode cX7_billUsage 10 = .ok (.aload_n 1, 1) := by decide +kernel
theorem dX7_billUsage_11 : decode cX7_billUsage 11 = .ok (.getfield 266, 3) := by decide +kernel
theorem dX7_billUsage_14 : decode cX7_billUsage 14 = .ok (.invokevirtual 285, 3) := by decide +kernel
theorem dX7_billUsage_17 : decode cX7_billUsage 17 = .ok (.lstore 4, 2) := by decide +kernel
theorem dX7_billUsage_19 : decode cX7_billUsage 19 = .ok (.lload 4, 2) := by decide +kernel
theorem dX7_billUsage_21 : decode cX7_billUsage 21 = .ok (.lconst 0, 1) := by decide +kernel
theorem dX7_billUsage_22 : decode cX7_billUsage 22 = .ok (.lcmp, 1) := by decide +kernel
theorem dX7_billUsage_23 : decode cX7_billUsage 23 = .ok (.ifCond .le 22, 3) := by decide +kernel
theorem dX7_billUsage_26 : decode cX7_billUsage 26 = .ok (.aload_n 1, 1) := by decide +kernel
theorem dX7_billUsage_27 : decode cX7_billUsage 27 = .ok (.iconst 0, 1) := by decide +kernel
theorem dX7_billUsage_28 : decode cX7_billUsage 28 = .ok (.iload_n 3, 1) := by decide +kernel
theorem dX7_billUsage_29 : decode cX7_billUsage 29 = .ok (.lload 4, 2) := by decide +kernel
theorem dX7_billUsage_31 : decode cX7_billUsage 31 = .ok (.aload_n 2, 1) := by decide +kernel
theorem dX7_billUsage_32 : decode cX7_billUsage 32 = .ok (.getfield 281, 3) := by decide +kernel
theorem dX7_billUsage_35 : decode cX7_billUsage 35 = .ok (.iload_n 3, 1) := by decide +kernel
theorem dX7_billUsage_36 : decode cX7_billUsage 36 = .ok (.aaload, 1) := by decide +kernel
theorem dX7_billUsage_37 : decode cX7_billUsage 37 = .ok (.lload 4, 2) := by decide +kernel
theorem dX7_billUsage_39 : decode cX7_billUsage 39 = .ok (.invokevirtual 169, 3) := by decide +kernel
theorem dX7_billUsage_42 : decode cX7_billUsage 42 = .ok (.invokevirtual 300, 3) := by decide +kernel
theorem dX7_billUsage_45 : decode cX7_billUsage 45 = .ok (.iinc 3 1, 3) := by decide +kernel
theorem dX7_billUsage_48 : decode cX7_billUsage 48 = .ok (.goto (-46), 3) := by decide +kernel
theorem dX7_billUsage_51 : decode cX7_billUsage 51 = .ok (.return_, 1) := by decide +kernel
theorem dX7_endOldHolds_0 : decode cX7_endOldHolds 0 = .ok (.iconst 0, 1) := by decide +kernel
theorem dX7_endOldHolds_1 : decode cX7_endOldHolds 1 = .ok (.istore_n 1, 1) := by decide +kernel
theorem dX7_endOldHolds_2 : decode cX7_endOldHolds 2 = .ok (.iload_n 1, 1) := by decide +kernel
theorem dX7_endOldHolds_3 : decode cX7_endOldHolds 3 = .ok (.aload_n 0, 1) := by decide +kernel
theorem dX7_endOldHolds_4 : decode cX7_endOldHolds 4 = .ok (.getfield 102, 3) := by decide +kernel
theorem dX7_endOldHolds_7 : decode cX7_endOldHolds 7 = .ok (.if_icmp .ge 38, 3) := by decide +kernel
theorem dX7_endOldHolds_10 : decode cX7_endOldHolds 10 = .ok (.aload_n 0, 1) := by decide +kernel
theorem dX7_endOldHolds_11 : decode cX7_endOldHolds 11 = .ok (.iload_n 1, 1) := by decide +kernel
theorem dX7_endOldHolds_12 : decode cX7_endOldHolds 12 = .ok (.invokevirtual 116, 3) := by decide +kernel
theorem dX7_endOldHolds_15 : decode cX7_endOldHolds 15 = .ok (.astore_n 2, 1) := by decide +kernel
theorem dX7_endOldHolds_16 : decode cX7_endOldHolds 16 = .ok (.aload_n 2, 1) := by decide +kernel
theorem dX7_endOldHolds_17 : decode cX7_endOldHolds 17 = .ok (.ifnull 22, 3) := by decide +kernel
theorem dX7_endOldHolds_20 : decode cX7_endOldHolds 20 = .ok (.aload_n 0, 1) := by decide +kernel
theorem dX7_endOldHolds_21 : decode cX7_endOldHolds 21 = .ok (.getfield 65, 3) := by decide +kernel
theorem dX7_endOldHolds_24 : decode cX7_endOldHolds 24 = .ok (.aload_n 2, 1) := by decide +kernel
theorem dX7_endOldHolds_25 : decode cX7_endOldHolds 25 = .ok (.getfield 236, 3) := by decide +kernel
theorem dX7_endOldHolds_28 : decode cX7_endOldHolds 28 = .ok (.isub, 1) := by decide +kernel
theorem dX7_endOldHolds_29 : decode cX7_endOldHolds 29 = .ok (.bipush 60, 2) := by decide +kernel
theorem dX7_endOldHolds_31 : decode cX7_endOldHolds 31 = .ok (.if_icmp .lt 8, 3) := by decide +kernel
theorem dX7_endOldHolds_34 : decode cX7_endOldHolds 34 = .ok (.aload_n 0, 1) := by decide +kernel
theorem dX7_endOldHolds_35 : decode cX7_endOldHolds 35 = .ok (.aload_n 2, 1) := by decide +kernel
theorem dX7_endOldHolds_36 : decode cX7_endOldHolds 36 = .ok (.invokevirtual 135, 3) := by decide +kernel
theorem dX7_endOldHolds_39 : decode cX7_endOldHolds 39 = .ok (.iinc 1 1, 3) := by decide +kernel
theorem dX7_endOldHolds_42 : decode cX7_endOldHolds 42 = .ok (.goto (-40), 3) := by decide +kernel
theorem dX7_endOldHolds_45 : decode cX7_endOldHolds 45 = .ok (.return_, 1) := by decide +kernel
theorem dX7_endHold_0 : decode cX7_endHold 0 = .ok (.aload_n 1, 1) := by decide +kernel
theorem dX7_endHold_1 : decode cX7_endHold 1 = .ok (.iconst 0, 1) := by decide +kernel
theorem dX7_endHold_2 : decode cX7_endHold 2 = .ok (.putfield 239, 3) := by decide +kernel
theorem dX7_endHold_5 : decode cX7_endHold 5 = .ok (.aload_n 0, 1) := by decide +kernel
theorem dX7_endHold_6 : decode cX7_endHold 6 = .ok (.dup, 1) := by decide +kernel
theorem dX7_endHold_7 : decode cX7_endHold 7 = .ok (.getfield 99, 3) := by decide +kernel
theorem dX7_endHold_10 : decode cX7_endHold 10 = .ok (.iconst 1, 1) := by decide +kernel
theorem dX7_endHold_11 : decode cX7_endHold 11 = .ok (.isub, 1) := by decide +kernel
theorem dX7_endHold_12 : decode cX7_endHold 12 = .ok (.putfield 99, 3) := by decide +kernel
theorem dX7_endHold_15 : decode cX7_endHold 15 = .ok (.aload_n 1, 1) := by decide +kernel
theorem dX7_endHold_16 : decode cX7_endHold 16 = .ok (.getfield 123, 3) := by decide +kernel
theorem dX7_endHold_19 : decode cX7_endHold 19 = .ok (.aload_n 1, 1) := by decide +kernel
theorem dX7_endHold_20 : decode cX7_endHold 20 = .ok (.getfield 128, 3) := by decide +kernel
theorem dX7_endHold_23 : decode cX7_endHold 23 = .ok (.aload_n 1, 1) := by decide +kernel
theorem dX7_endHold_24 : decode cX7_endHold 24 = .ok (.getfield 120, 3) := by decide +kernel
theorem dX7_endHold_27 : decode cX7_endHold 27 = .ok (.ineg, 1) := by decide +kernel
theorem dX7_endHold_28 : decode cX7_endHold 28 = .ok (.invokevirtual 112, 3) := by decide +kernel
theorem dX7_endHold_31 : decode cX7_endHold 31 = .ok (.return_, 1) := by decide +kernel
theorem dX8_isTenant_0 : decode cX8_isTenant 0 = .ok (.iload_n 0, 1) := by decide +kernel
theorem dX8_isTenant_1 : decode cX8_isTenant 1 = .ok (.ifCond .lt 13, 3) := by decide +kernel
theorem dX8_isTenant_4 : decode cX8_isTenant 4 = .ok (.iload_n 0, 1) := by decide +kernel
theorem dX8_isTenant_5 : decode cX8_isTenant 5 = .ok (.bipush 6, 2) := by decide +kernel
theorem dX8_isTenant_7 : decode cX8_isTenant 7 = .ok (.if_icmp .ge 7, 3) := by decide +kernel
theorem dX8_isTenant_10 : decode cX8_isTenant 10 = .ok (.iconst 1, 1) := by decide +kernel
theorem dX8_isTenant_11 : decode cX8_isTenant 11 = .ok (.goto 4, 3) := by decide +kernel
theorem dX8_isTenant_14 : decode cX8_isTenant 14 = .ok (.iconst 0, 1) := by decide +kernel
theorem dX8_isTenant_15 : decode cX8_isTenant 15 = .ok (.ireturn, 1) := by decide +kernel
theorem dX8_isResource_0 : decode cX8_isResource 0 = .ok (.iload_n 0, 1) := by decide +kernel
theorem dX8_isResource_1 : decode cX8_isResource 1 = .ok (.ifCond .lt 12, 3) := by decide +kernel
theorem dX8_isResource_4 : decode cX8_isResource 4 = .ok (.iload_n 0, 1) := by decide +kernel
theorem dX8_isResource_5 : decode cX8_isResource 5 = .ok (.iconst 4, 1) := by decide +kernel
theorem dX8_isResource_6 : decode cX8_isResource 6 = .ok (.if_icmp .ge 7, 3) := by decide +kernel
theorem dX8_isResource_9 : decode cX8_isResource 9 = .ok (.iconst 1, 1) := by decide +kernel
theorem dX8_isResource_10 : decode cX8_isResource 10 = .ok (.goto 4, 3) := by decide +kernel
theorem dX8_isResource_13 : decode cX8_isResource 13 = .ok (.iconst 0, 1) := by decide +kernel
theorem dX8_isResource_14 : decode cX8_isResource 14 = .ok (.ireturn, 1) := by decide +kernel
theorem dX8_isAccount_0 : decode cX8_isAccount 0 = .ok (.iload_n 1, 1) := by decide +kernel
theorem dX8_isAccount_1 : decode cX8_isAccount 1 = .ok (.ifCond .lt 15, 3) := by decide +kernel
theorem dX8_isAccount_4 : decode cX8_isAccount 4 = .ok (.iload_n 1, 1) := by decide +kernel
theorem dX8_isAccount_5 : decode cX8_isAccount 5 = .ok (.aload_n 0, 1) := by decide +kernel
theorem dX8_isAccount_6 : decode cX8_isAccount 6 = .ok (.getfield 3, 3) := by decide +kernel
theorem dX8_isAccount_9 : decode cX8_isAccount 9 = .ok (.if_icmp .ge 7, 3) := by decide +kernel
theorem dX8_isAccount_12 : decode cX8_isAccount 12 = .ok (.iconst 1, 1) := by decide +kernel
theorem dX8_isAccount_13 : decode cX8_isAccount 13 = .ok (.goto 4, 3) := by decide +kernel
theorem dX8_isAccount_16 : decode cX8_isAccount 16 = .ok (.iconst 0, 1) := by decide +kernel
theorem dX8_isAccount_17 : decode cX8_isAccount 17 = .ok (.ireturn, 1) := by decide +kernel
theorem dX8_account_0 : decode cX8_account 0 = .ok (.iload_n 1, 1) := by decide +kernel
theorem dX8_account_1 : decode cX8_account 1 = .ok (.invokestatic 7, 3) := by decide +kernel
theorem dX8_account_4 : decode cX8_account 4 = .ok (.ifCond .eq 26, 3) := by decide +kernel
theorem dX8_account_7 : decode cX8_account 7 = .ok (.iload_n 2, 1) := by decide +kernel
theorem dX8_account_8 : decode cX8_account 8 = .ok (.iconst (-1), 1) := by decide +kernel
theorem dX8_account_9 : decode cX8_account 9 = .ok (.if_icmp .eq 24, 3) := by decide +kernel
theorem dX8_account_12 : decode cX8_account 12 = .ok (.aload_n 0, 1) := by decide +kernel
theorem dX8_account_13 : decode cX8_account 13 = .ok (.iload_n 2, 1) := by decide +kernel
theorem dX8_account_14 : decode cX8_account 14 = .ok (.invokevirtual 11, 3) := by decide +kernel
theorem dX8_account_17 : decode cX8_account 17 = .ok (.ifCond .eq 13, 3) := by decide +kernel
theorem dX8_account_20 : decode cX8_account 20 = .ok (.aload_n 0, 1) := by decide +kernel
theorem dX8_account_21 : decode cX8_account 21 = .ok (.getfield 14, 3) := by decide +kernel
theorem dX8_account_24 : decode cX8_account 24 = .ok (.iload_n 2, 1) := by decide +kernel
theorem dX8_account_25 : decode cX8_account 25 = .ok (.iaload, 1) := by decide +kernel
theorem dX8_account_26 : decode cX8_account 26 = .ok (.iload_n 1, 1) := by decide +kernel
theorem dX8_account_27 : decode cX8_account 27 = .ok (.if_icmp .eq 6, 3) := by decide +kernel
theorem dX8_account_30 : decode cX8_account 30 = .ok (.bipush (-2), 2) := by decide +kernel
theorem dX8_account_32 : decode cX8_account 32 = .ok (.ireturn, 1) := by decide +kernel
theorem dX8_account_33 : decode cX8_account 33 = .ok (.aload_n 0, 1) := by decide +kernel
theorem dX8_account_34 : decode cX8_account 34 = .ok (.getfield 3, 3) := by decide +kernel
theorem dX8_account_37 : decode cX8_account 37 = .ok (.bipush 24, 2) := by decide +kernel
theorem dX8_account_39 : decode cX8_account 39 = .ok (.if_icmp .ne 6, 3) := by decide +kernel
theorem dX8_account_42 : decode cX8_account 42 = .ok (.bipush (-3), 2) := by decide +kernel
theorem dX8_account_44 : decode cX8_account 44 = .ok (.ireturn, 1) := by decide +kernel
theorem dX8_account_45 : decode cX8_account 45 = .ok (.aload_n 0, 1) := by decide +kernel
theorem dX8_account_46 : decode cX8_account 46 = .ok (.getfield 14, 3) := by decide +kernel
theorem dX8_account_49 : decode cX8_account 49 = .ok (.aload_n 0, 1) := by decide +kernel
theorem dX8_account_50 : decode cX8_account 50 = .ok (.getfield 3, 3) := by decide +kernel
theorem dX8_account_53 : decode cX8_account 53 = .ok (.iload_n 1, 1) := by decide +kernel
theorem dX8_account_54 : decode cX8_account 54 = .ok (.iastore, 1) := by decide +kernel
theorem dX8_account_55 : decode cX8_account 55 = .ok (.aload_n 0, 1) := by decide +kernel
theorem dX8_account_56 : decode cX8_account 56 = .ok (.getfield 18, 3) := by decide +kernel
theorem dX8_account_59 : decode cX8_account 59 = .ok (.aload_n 0, 1) := by decide +kernel
theorem dX8_account_60 : decode cX8_account 60 = .ok (.getfield 3, 3) := by decide +kernel
theorem dX8_account_63 : decode cX8_account 63 = .ok (.iload_n 2, 1) := by decide +kernel
theorem dX8_account_64 : decode cX8_account 64 = .ok (.iastore, 1) := by decide +kernel
theorem dX8_account_65 : decode cX8_account 65 = .ok (.iconst 0, 1) := by decide +kernel
theorem dX8_account_66 : decode cX8_account 66 = .ok (.istore_n 3, 1) := by decide +kernel
theorem dX8_account_67 : decode cX8_account 67 = .ok (.iload_n 3, 1) := by decide +kernel
theorem dX8_account_68 : decode cX8_account 68 = .ok (.iconst 4, 1) := by decide +kernel
theorem dX8_account_69 : decode cX8_account 69 = .ok (.if_icmp .ge 23, 3) := by decide +kernel
theorem dX8_account_72 : decode cX8_account 72 = .ok (.aload_n 0, 1) := by decide +kernel
theorem dX8_account_73 : decode cX8_account 73 = .ok (.getfield 21, 3) := by decide +kernel
theorem dX8_account_76 : decode cX8_account 76 = .ok (.iconst 4, 1) := by decide +kernel
theorem dX8_account_77 : decode cX8_account 77 = .ok (.aload_n 0, 1) := by decide +kernel
end
section
theorem dX8_account_78 : decode cX8_account 78 = .ok (.getfield 3, 3) := by decide +kernel
theorem dX8_account_81 : decode cX8_account 81 = .ok (.imul, 1) := by decide +kernel
theorem dX8_account_82 : decode cX8_account 82 = .ok (.iload_n 3, 1) := by decide +kernel
theorem dX8_account_83 : decode cX8_account 83 = .ok (.iadd, 1) := by decide +kernel
theorem dX8_account_84 : decode cX8_account 84 = .ok (.iconst (-1), 1) := by decide +kernel
theorem dX8_account_85 : decode cX8_account 85 = .ok (.iastore, 1) := by decide +kernel
theorem dX8_account_86 : decode cX8_account 86 = .ok (.iinc 3 1, 3) := by decide +kernel
theorem dX8_account_89 : decode cX8_account 89 = .ok (.goto (-22), 3) := by decide +kernel
theorem dX8_account_92 : decode cX8_account 92 = .ok (.aload_n 0, 1) := by decide +kernel
theorem dX8_account_93 : decode cX8_account 93 = .ok (.dup, 1) := by decide +kernel
theorem dX8_account_94 : decode cX8_account 94 = .ok (.getfield 3, 3) := by decide +kernel
theorem dX8_account_97 : decode cX8_account 97 = .ok (.iconst 1, 1) := by decide +kernel
theorem dX8_account_98 : decode cX8_account 98 = .ok (.iadd, 1) := by decide +kernel
theorem dX8_account_99 : decode cX8_account 99 = .ok (.putfield 3, 3) := by decide +kernel
theorem dX8_account_102 : decode cX8_account 102 = .ok (.aload_n 0, 1) := by decide +kernel
theorem dX8_account_103 : decode cX8_account 103 = .ok (.getfield 3, 3) := by decide +kernel
theorem dX8_account_106 : decode cX8_account 106 = .ok (.iconst 1, 1) := by decide +kernel
theorem dX8_account_107 : decode cX8_account 107 = .ok (.isub, 1) := by decide +kernel
theorem dX8_account_108 : decode cX8_account 108 = .ok (.ireturn, 1) := by decide +kernel
theorem dX8_tick_0 : decode cX8_tick 0 = .ok (.iload_n 1, 1) := by decide +kernel
theorem dX8_tick_1 : decode cX8_tick 1 = .ok (.iconst 1, 1) := by decide +kernel
theorem dX8_tick_2 : decode cX8_tick 2 = .ok (.if_icmp .lt 10, 3) := by decide +kernel
theorem dX8_tick_5 : decode cX8_tick 5 = .ok (.iload_n 1, 1) := by decide +kernel
theorem dX8_tick_6 : decode cX8_tick 6 = .ok (.sipush 10000, 3) := by decide +kernel
theorem dX8_tick_9 : decode cX8_tick 9 = .ok (.if_icmp .le 6, 3) := by decide +kernel
theorem dX8_tick_12 : decode cX8_tick 12 = .ok (.bipush (-2), 2) := by decide +kernel
theorem dX8_tick_14 : decode cX8_tick 14 = .ok (.ireturn, 1) := by decide +kernel
theorem dX8_tick_15 : decode cX8_tick 15 = .ok (.aload_n 0, 1) := by decide +kernel
theorem dX8_tick_16 : decode cX8_tick 16 = .ok (.getfield 24, 3) := by decide +kernel
theorem dX8_tick_19 : decode cX8_tick 19 = .ok (.iload_n 1, 1) := by decide +kernel
theorem dX8_tick_20 : decode cX8_tick 20 = .ok (.iadd, 1) := by decide +kernel
theorem dX8_tick_21 : decode cX8_tick 21 = .ok (.ldc 27, 2) := by decide +kernel
theorem dX8_tick_23 : decode cX8_tick 23 = .ok (.if_icmp .le 6, 3) := by decide +kernel
theorem dX8_tick_26 : decode cX8_tick 26 = .ok (.bipush (-3), 2) := by decide +kernel
theorem dX8_tick_28 : decode cX8_tick 28 = .ok (.ireturn, 1) := by decide +kernel
theorem dX8_tick_29 : decode cX8_tick 29 = .ok (.aload_n 0, 1) := by decide +kernel
theorem dX8_tick_30 : decode cX8_tick 30 = .ok (.dup, 1) := by decide +kernel
theorem dX8_tick_31 : decode cX8_tick 31 = .ok (.getfield 24, 3) := by decide +kernel
theorem dX8_tick_34 : decode cX8_tick 34 = .ok (.iload_n 1, 1) := by decide +kernel
theorem dX8_tick_35 : decode cX8_tick 35 = .ok (.iadd, 1) := by decide +kernel
theorem dX8_tick_36 : decode cX8_tick 36 = .ok (.putfield 24, 3) := by decide +kernel
theorem dX8_tick_39 : decode cX8_tick 39 = .ok (.aload_n 0, 1) := by decide +kernel
theorem dX8_tick_40 : decode cX8_tick 40 = .ok (.getfield 24, 3) := by decide +kernel
theorem dX8_tick_43 : decode cX8_tick 43 = .ok (.ireturn, 1) := by decide +kernel
theorem dX8_lies_0 : decode cX8_lies 0 = .ok (.iload_n 1, 1) := by decide +kernel
theorem dX8_lies_1 : decode cX8_lies 1 = .ok (.istore_n 3, 1) := by decide +kernel
theorem dX8_lies_2 : decode cX8_lies 2 = .ok (.iload_n 3, 1) := by decide +kernel
theorem dX8_lies_3 : decode cX8_lies 3 = .ok (.iconst (-1), 1) := by decide +kernel
theorem dX8_lies_4 : decode cX8_lies 4 = .ok (.if_icmp .eq 18, 3) := by decide +kernel
theorem dX8_lies_7 : decode cX8_lies 7 = .ok (.iload_n 3, 1) := by decide +kernel
theorem dX8_lies_8 : decode cX8_lies 8 = .ok (.iload_n 2, 1) := by decide +kernel
theorem dX8_lies_9 : decode cX8_lies 9 = .ok (.if_icmp .eq 13, 3) := by decide +kernel
theorem dX8_lies_12 : decode cX8_lies 12 = .ok (.aload_n 0, 1) := by decide +kernel
theorem dX8_lies_13 : decode cX8_lies 13 = .ok (.getfield 18, 3) := by decide +kernel
theorem dX8_lies_16 : decode cX8_lies 16 = .ok (.iload_n 3, 1) := by decide +kernel
theorem dX8_lies_17 : decode cX8_lies 17 = .ok (.iaload, 1) := by decide +kernel
theorem dX8_lies_18 : decode cX8_lies 18 = .ok (.istore_n 3, 1) := by decide +kernel
theorem dX8_lies_19 : decode cX8_lies 19 = .ok (.goto (-17), 3) := by decide +kernel
theorem dX8_lies_22 : decode cX8_lies 22 = .ok (.iload_n 3, 1) := by decide +kernel
theorem dX8_lies_23 : decode cX8_lies 23 = .ok (.iload_n 2, 1) := by decide +kernel
theorem dX8_lies_24 : decode cX8_lies 24 = .ok (.if_icmp .ne 7, 3) := by decide +kernel
theorem dX8_lies_27 : decode cX8_lies 27 = .ok (.iconst 1, 1) := by decide +kernel
theorem dX8_lies_28 : decode cX8_lies 28 = .ok (.goto 4, 3) := by decide +kernel
theorem dX8_lies_31 : decode cX8_lies 31 = .ok (.iconst 0, 1) := by decide +kernel
theorem dX8_lies_32 : decode cX8_lies 32 = .ok (.ireturn, 1) := by decide +kernel
theorem dX8_limit_0 : decode cX8_limit 0 = .ok (.aload_n 0, 1) := by decide +kernel
theorem dX8_limit_1 : decode cX8_limit 1 = .ok (.iload_n 1, 1) := by decide +kernel
theorem dX8_limit_2 : decode cX8_limit 2 = .ok (.invokevirtual 11, 3) := by decide +kernel
theorem dX8_limit_5 : decode cX8_limit 5 = .ok (.ifCond .eq 21, 3) := by decide +kernel
theorem dX8_limit_8 : decode cX8_limit 8 = .ok (.iload_n 2, 1) := by decide +kernel
theorem dX8_limit_9 : decode cX8_limit 9 = .ok (.invokestatic 28, 3) := by decide +kernel
theorem dX8_limit_12 : decode cX8_limit 12 = .ok (.ifCond .eq 14, 3) := by decide +kernel
theorem dX8_limit_15 : decode cX8_limit 15 = .ok (.iload_n 3, 1) := by decide +kernel
theorem dX8_limit_16 : decode cX8_limit 16 = .ok (.iconst (-1), 1) := by decide +kernel
theorem dX8_limit_17 : decode cX8_limit 17 = .ok (.if_icmp .lt 9, 3) := by decide +kernel
theorem dX8_limit_20 : decode cX8_limit 20 = .ok (.iload_n 3, 1) := by decide +kernel
theorem dX8_limit_21 : decode cX8_limit 21 = .ok (.ldc 31, 2) := by decide +kernel
theorem dX8_limit_23 : decode cX8_limit 23 = .ok (.if_icmp .le 6, 3) := by decide +kernel
theorem dX8_limit_26 : decode cX8_limit 26 = .ok (.bipush (-2), 2) := by decide +kernel
theorem dX8_limit_28 : decode cX8_limit 28 = .ok (.ireturn, 1) := by decide +kernel
theorem dX8_limit_29 : decode cX8_limit 29 = .ok (.aload_n 0, 1) := by decide +kernel
theorem dX8_limit_30 : decode cX8_limit 30 = .ok (.getfield 21, 3) := by decide +kernel
theorem dX8_limit_33 : decode cX8_limit 33 = .ok (.iconst 4, 1) := by decide +kernel
theorem dX8_limit_34 : decode cX8_limit 34 = .ok (.iload_n 1, 1) := by decide +kernel
theorem dX8_limit_35 : decode cX8_limit 35 = .ok (.imul, 1) := by decide +kernel
theorem dX8_limit_36 : decode cX8_limit 36 = .ok (.iload_n 2, 1) := by decide +kernel
theorem dX8_limit_37 : decode cX8_limit 37 = .ok (.iadd, 1) := by decide +kernel
theorem dX8_limit_38 : decode cX8_limit 38 = .ok (.iload_n 3, 1) := by decide +kernel
theorem dX8_limit_39 : decode cX8_limit 39 = .ok (.iastore, 1) := by decide +kernel
theorem dX8_limit_40 : decode cX8_limit 40 = .ok (.iconst 0, 1) := by decide +kernel
theorem dX8_limit_41 : decode cX8_limit 41 = .ok (.ireturn, 1) := by decide +kernel
theorem dX8_cell_0 : decode cX8_cell 0 = .ok (.iconst 4, 1) := by decide +kernel
theorem dX8_cell_1 : decode cX8_cell 1 = .ok (.iload_n 0, 1) := by decide +kernel
theorem dX8_cell_2 : decode cX8_cell 2 = .ok (.imul, 1) := by decide +kernel
theorem dX8_cell_3 : decode cX8_cell 3 = .ok (.iload_n 1, 1) := by decide +kernel
theorem dX8_cell_4 : decode cX8_cell 4 = .ok (.iadd, 1) := by decide +kernel
theorem dX8_cell_5 : decode cX8_cell 5 = .ok (.bipush 100, 2) := by decide +kernel
theorem dX8_cell_7 : decode cX8_cell 7 = .ok (.imul, 1) := by decide +kernel
theorem dX8_cell_8 : decode cX8_cell 8 = .ok (.iload_n 2, 1) := by decide +kernel
theorem dX8_cell_9 : decode cX8_cell 9 = .ok (.iadd, 1) := by decide +kernel
theorem dX8_cell_10 : decode cX8_cell 10 = .ok (.ireturn, 1) := by decide +kernel
theorem dX8_forget_0 : decode cX8_forget 0 = .ok (.iconst 0, 1) := by decide +kernel
theorem dX8_forget_1 : decode cX8_forget 1 = .ok (.istore_n 1, 1) := by decide +kernel
theorem dX8_forget_2 : decode cX8_forget 2 = .ok (.iconst 0, 1) := by decide +kernel
theorem dX8_forget_3 : decode cX8_forget 3 = .ok (.istore_n 2, 1) := by decide +kernel
theorem dX8_forget_4 : decode cX8_forget 4 = .ok (.iload_n 2, 1) := by decide +kernel
theorem dX8_forget_5 : decode cX8_forget 5 = .ok (.aload_n 0, 1) := by decide +kernel
theorem dX8_forget_6 : decode cX8_forget 6 = .ok (.getfield 32, 3) := by decide +kernel
theorem dX8_forget_9 : decode cX8_forget 9 = .ok (.if_icmp .ge 65, 3) := by decide +kernel
theorem dX8_forget_12 : decode cX8_forget 12 = .ok (.aload_n 0, 1) := by decide +kernel
theorem dX8_forget_13 : decode cX8_forget 13 = .ok (.getfield 24, 3) := by decide +kernel
theorem dX8_forget_16 : decode cX8_forget 16 = .ok (.aload_n 0, 1) := by decide +kernel
theorem dX8_forget_17 : decode cX8_forget 17 = .ok (.getfield 35, 3) := by decide +kernel
theorem dX8_forget_20 : decode cX8_forget 20 = .ok (.iload_n 2, 1) := by decide +kernel
theorem dX8_forget_21 : decode cX8_forget 21 = .ok (.iaload, 1) := by decide +kernel
theorem dX8_forget_22 : decode cX8_forget 22 = .ok (.sipush 1000, 3) := by decide +kernel
theorem dX8_forget_25 : decode cX8_forget 25 = .ok (.iadd, 1) := by decide +kernel
theorem dX8_forget_26 : decode cX8_forget 26 = .ok (.if_icmp .ge 42, 3) := by decide +kernel
theorem dX8_forget_29 : decode cX8_forget 29 = .ok (.aload_n 0, 1) := by decide +kernel
theorem dX8_forget_30 : decode cX8_forget 30 = .ok (.getfield 38, 3) := by decide +kernel
theorem dX8_forget_33 : decode cX8_forget 33 = .ok (.iload_n 1, 1) := by decide +kernel
theorem dX8_forget_34 : decode cX8_forget 34 = .ok (.aload_n 0, 1) := by decide +kernel
theorem dX8_forget_35 : decode cX8_forget 35 = .ok (.getfield 38, 3) := by decide +kernel
theorem dX8_forget_38 : decode cX8_forget 38 = .ok (.iload_n 2, 1) := by decide +kernel
theorem dX8_forget_39 : decode cX8_forget 39 = .ok (.laload, 1) := by decide +kernel
theorem dX8_forget_40 : decode cX8_forget 40 = .ok (.lastore, 1) := by decide +kernel
theorem dX8_forget_41 : decode cX8_forget 41 = .ok (.aload_n 0, 1) := by decide +kernel
theorem dX8_forget_42 : decode cX8_forget 42 = .ok (.getfield 42, 3) := by decide +kernel
theorem dX8_forget_45 : decode cX8_forget 45 = .ok (.iload_n 1, 1) := by decide +kernel
theorem dX8_forget_46 : decode cX8_forget 46 = .ok (.aload_n 0, 1) := by decide +kernel
theorem dX8_forget_47 : decode cX8_forget 47 = .ok (.getfield 42, 3) := by decide +kernel
theorem dX8_forget_50 : decode cX8_forget 50 = .ok (.iload_n 2, 1) := by decide +kernel
theorem dX8_forget_51 : decode cX8_forget 51 = .ok (.iaload, 1) := by decide +kernel
theorem dX8_forget_52 : decode cX8_forget 52 = .ok (.iastore, 1) := by decide +kernel
theorem dX8_forget_53 : decode cX8_forget 53 = .ok (.aload_n 0, 1) := by decide +kernel
theorem dX8_forget_54 : decode cX8_forget 54 = .ok (.getfield 35, 3) := by decide +kernel
theorem dX8_forget_57 : decode cX8_forget 57 = .ok (.iload_n 1, 1) := by decide +kernel
theorem dX8_forget_58 : decode cX8_forget 58 = .ok (.aload_n 0, 1) := by decide +kernel
theorem dX8_forget_59 : decode cX8_forget 59 = .ok (.getfield 35, 3) := by decide +kernel
theorem dX8_forget_62 : decode cX8_forget 62 = .ok (.iload_n 2, 1) := by decide +kernel
theorem dX8_forget_63 : decode cX8_forget 63 = .ok (.iaload, 1) := by decide +kernel
theorem dX8_forget_64 : decode cX8_forget 64 = .ok (.iastore, 1) := by decide +kernel
theorem dX8_forget_65 : decode cX8_forget 65 = .ok (.iinc 1 1, 3) := by decide +kernel
theorem dX8_forget_68 : decode cX8_forget 68 = .ok (.iinc 2 1, 3) := by decide +kernel
theorem dX8_forget_71 : decode cX8_forget 71 = .ok (.goto (-67), 3) := by decide +kernel
theorem dX8_forget_74 : decode cX8_forget 74 = .ok (.aload_n 0, 1) := by decide +kernel
theorem dX8_forget_75 : decode cX8_forget 75 = .ok (.iload_n 1, 1) := by decide +kernel
theorem dX8_forget_76 : decode cX8_forget 76 = .ok (.putfield 32, 3) := by decide +kernel
theorem dX8_forget_79 : decode cX8_forget 79 = .ok (.return_, 1) := by decide +kernel
theorem dX8_come_0 : decode cX8_come 0 = .ok (.iload 6, 2) := by decide +kernel
theorem dX8_come_2 : decode cX8_come 2 = .ok (.aload_n 0, 1) := by decide +kernel
theorem dX8_come_3 : decode cX8_come 3 = .ok (.getfield 24, 3) := by decide +kernel
theorem dX8_come_6 : decode cX8_come 6 = .ok (.if_icmp .le 6, 3) := by decide +kernel
theorem dX8_come_9 : decode cX8_come 9 = .ok (.bipush (-4), 2) := by decide +kernel
theorem dX8_come_11 : decode cX8_come 11 = .ok (.ireturn, 1) := by decide +kernel
theorem dX8_come_12 : decode cX8_come 12 = .ok (.iload 6, 2) := by decide +kernel
theorem dX8_come_14 : decode cX8_come 14 = .ok (.aload_n 0, 1) := by decide +kernel
theorem dX8_come_15 : decode cX8_come 15 = .ok (.getfield 24, 3) := by decide +kernel
theorem dX8_come_18 : decode cX8_come 18 = .ok (.sipush 500, 3) := by decide +kernel
theorem dX8_come_21 : decode cX8_come 21 = .ok (.isub, 1) := by decide +kernel
theorem dX8_come_22 : decode cX8_come 22 = .ok (.if_icmp .ge 6, 3) := by decide +kernel
theorem dX8_come_25 : decode cX8_come 25 = .ok (.bipush (-5), 2) := by decide +kernel
theorem dX8_come_27 : decode cX8_come 27 = .ok (.ireturn, 1) := by decide +kernel
theorem dX8_come_28 : decode cX8_come 28 = .ok (.aload_n 0, 1) := by decide +kernel
theorem dX8_come_29 : decode cX8_come 29 = .ok (.invokevirtual 45, 3) := by decide +kernel
theorem dX8_come_32 : decode cX8_come 32 = .ok (.aload_n 0, 1) := by decide +kernel
theorem dX8_come_33 : decode cX8_come 33 = .ok (.getfield 14, 3) := by decide +kernel
theorem dX8_come_36 : decode cX8_come 36 = .ok (.iload_n 3, 1) := by decide +kernel
theorem dX8_come_37 : decode cX8_come 37 = .ok (.iaload, 1) := by decide +kernel
theorem dX8_come_38 : decode cX8_come 38 = .ok (.istore 7, 2) := by decide +kernel
theorem dX8_come_40 : decode cX8_come 40 = .ok (.iconst 0, 1) := by decide +kernel
theorem dX8_come_41 : decode cX8_come 41 = .ok (.istore 8, 2) := by decide +kernel
theorem dX8_come_43 : decode cX8_come 43 = .ok (.iload 8, 2) := by decide +kernel
theorem dX8_come_45 : decode cX8_come 45 = .ok (.aload_n 0, 1) := by decide +kernel
theorem dX8_come_46 : decode cX8_come 46 = .ok (.getfield 32, 3) := by decide +kernel
theorem dX8_come_49 : decode cX8_come 49 = .ok (.if_icmp .ge 36, 3) := by decide +kernel
theorem dX8_come_52 : decode cX8_come 52 = .ok (.aload_n 0, 1) := by decide +kernel
theorem dX8_come_53 : decode cX8_come 53 = .ok (.getfield 38, 3) := by decide +kernel
theorem dX8_come_56 : decode cX8_come 56 = .ok (.iload 8, 2) := by decide +kernel
theorem dX8_come_58 : decode cX8_come 58 = .ok (.laload, 1) := by decide +kernel
theorem dX8_come_59 : decode cX8_come 59 = .ok (.lload_n 1, 1) := by decide +kernel
theorem dX8_come_60 : decode cX8_come 60 = .ok (.lcmp, 1) := by decide +kernel
theorem dX8_come_61 : decode cX8_come 61 = .ok (.ifCond .ne 18, 3) := by decide +kernel
theorem dX8_come_64 : decode cX8_come 64 = .ok (.aload_n 0, 1) := by decide +kernel
theorem dX8_come_65 : decode cX8_come 65 = .ok (.getfield 42, 3) := by decide +kernel
theorem dX8_come_68 : decode cX8_come 68 = .ok (.iload 8, 2) := by decide +kernel
theorem dX8_come_70 : decode cX8_come 70 = .ok (.iaload, 1) := by decide +kernel
theorem dX8_come_71 : decode cX8_come 71 = .ok (.iload 7, 2) := by decide +kernel
theorem dX8_come_73 : decode cX8_come 73 = .ok (.if_icmp .ne 6, 3) := by decide +kernel
theorem dX8_come_76 : decode cX8_come 76 = .ok (.bipush (-6), 2) := by decide +kernel
theorem dX8_come_78 : decode cX8_come 78 = .ok (.ireturn, 1) := by decide +kernel
theorem dX8_come_79 : decode cX8_come 79 = .ok (.iinc 8 1, 3) := by decide +kernel
theorem dX8_come_82 : decode cX8_come 82 = .ok (.goto (-39), 3) := by decide +kernel
theorem dX8_come_85 : decode cX8_come 85 = .ok (.aload_n 0, 1) := by decide +kernel
theorem dX8_come_86 : decode cX8_come 86 = .ok (.getfield 32, 3) := by decide +kernel
theorem dX8_come_89 : decode cX8_come 89 = .ok (.sipush 300, 3) := by decide +kernel
theorem dX8_come_92 : decode cX8_come 92 = .ok (.if_icmp .ne 6, 3) := by decide +kernel
theorem dX8_come_95 : decode cX8_come 95 = .ok (.bipush (-3), 2) := by decide +kernel
theorem dX8_come_97 : decode cX8_come 97 = .ok (.ireturn, 1) := by decide +kernel
theorem dX8_come_98 : decode cX8_come 98 = .ok (.aload_n 0, 1) := by decide +kernel
theorem dX8_come_99 : decode cX8_come 99 = .ok (.getfield 38, 3) := by decide +kernel
theorem dX8_come_102 : decode cX8_come 102 = .ok (.aload_n 0, 1) := by decide +kernel
theorem dX8_come_103 : decode cX8_come 103 = .ok (.getfield 32, 3) := by decide +kernel
theorem dX8_come_106 : decode cX8_come 106 = .ok (.lload_n 1, 1) := by decide +kernel
theorem dX8_come_107 : decode cX8_come 107 = .ok (.lastore, 1) := by decide +kernel
theorem dX8_come_108 : decode cX8_come 108 = .ok (.aload_n 0, 1) := by decide +kernel
theorem dX8_come_109 : decode cX8_come 109 = .ok (.getfield 42, 3) := by decide +kernel
theorem dX8_come_112 : decode cX8_come 112 = .ok (.aload_n 0, 1) := by decide +kernel
theorem dX8_come_113 : decode cX8_come 113 = .ok (.getfield 32, 3) := by decide +kernel
theorem dX8_come_116 : decode cX8_come 116 = .ok (.iload 7, 2) := by decide +kernel
theorem dX8_come_118 : decode cX8_come 118 = .ok (.iastore, 1) := by decide +kernel
theorem dX8_come_119 : decode cX8_come 119 = .ok (.aload_n 0, 1) := by decide +kernel
theorem dX8_come_120 : decode cX8_come 120 = .ok (.getfield 35, 3) := by decide +kernel
theorem dX8_come_123 : decode cX8_come 123 = .ok (.aload_n 0, 1) := by decide +kernel
theorem dX8_come_124 : decode cX8_come 124 = .ok (.getfield 32, 3) := by decide +kernel
theorem dX8_come_127 : decode cX8_come 127 = .ok (.iload 6, 2) := by decide +kernel
theorem dX8_come_129 : decode cX8_come 129 = .ok (.iastore, 1) := by decide +kernel
theorem dX8_come_130 : decode cX8_come 130 = .ok (.aload_n 0, 1) := by decide +kernel
theorem dX8_come_131 : decode cX8_come 131 = .ok (.dup, 1) := by decide +kernel
theorem dX8_come_132 : decode cX8_come 132 = .ok (.getfield 32, 3) := by decide +kernel
theorem dX8_come_135 : decode cX8_come 135 = .ok (.iconst 1, 1) := by decide +kernel
theorem dX8_come_136 : decode cX8_come 136 = .ok (.iadd, 1) := by decide +kernel
theorem dX8_come_137 : decode cX8_come 137 = .ok (.putfield 32, 3) := by decide +kernel
theorem dX8_come_140 : decode cX8_come 140 = .ok (.iload 6, 2) := by decide +kernel
theorem dX8_come_142 : decode cX8_come 142 = .ok (.sipush 1000, 3) := by decide +kernel
theorem dX8_come_145 : decode cX8_come 145 = .ok (.idiv, 1) := by decide +kernel
theorem dX8_come_146 : decode cX8_come 146 = .ok (.istore 8, 2) := by decide +kernel
theorem dX8_come_148 : decode cX8_come 148 = .ok (.iload 8, 2) := by decide +kernel
theorem dX8_come_150 : decode cX8_come 150 = .ok (.aload_n 0, 1) := by decide +kernel
theorem dX8_come_151 : decode cX8_come 151 = .ok (.getfield 49, 3) := by decide +kernel
theorem dX8_come_154 : decode cX8_come 154 = .ok (.iload 7, 2) := by decide +kernel
theorem dX8_come_156 : decode cX8_come 156 = .ok (.iaload, 1) := by decide +kernel
theorem dX8_come_157 : decode cX8_come 157 = .ok (.if_icmp .ge 7, 3) := by decide +kernel
theorem dX8_come_160 : decode cX8_come 160 = .ok (.iconst 1, 1) := by decide +kernel
theorem dX8_come_161 : decode cX8_come 161 = .ok (.goto 4, 3) := by decide +kernel
theorem dX8_come_164 : decode cX8_come 164 = .ok (.iconst 0, 1) := by decide +kernel
theorem dX8_come_165 : decode cX8_come 165 = .ok (.istore 9, 2) := by decide +kernel
theorem dX8_come_167 : decode cX8_come 167 = .ok (.iload 9, 2) := by decide +kernel
theorem dX8_come_169 : decode cX8_come 169 = .ok (.ifCond .eq 15, 3) := by decide +kernel
theorem dX8_come_172 : decode cX8_come 172 = .ok (.aload_n 0, 1) := by decide +kernel
theorem dX8_come_173 : decode cX8_come 173 = .ok (.iload 7, 2) := by decide +kernel
theorem dX8_come_175 : decode cX8_come 175 = .ok (.iload 4, 2) := by decide +kernel
theorem dX8_come_177 : decode cX8_come 177 = .ok (.iload 8, 2) := by decide +kernel
theorem dX8_come_179 : decode cX8_come 179 = .ok (.iload 5, 2) := by decide +kernel
theorem dX8_come_181 : decode cX8_come 181 = .ok (.invokevirtual 52, 3) := by decide +kernel
theorem dX8_come_184 : decode cX8_come 184 = .ok (.aload_n 0, 1) := by decide +kernel
theorem dX8_come_185 : decode cX8_come 185 = .ok (.getfield 56, 3) := by decide +kernel
theorem dX8_come_188 : decode cX8_come 188 = .ok (.iload_n 3, 1) := by decide +kernel
theorem dX8_come_189 : decode cX8_come 189 = .ok (.iload 4, 2) := by decide +kernel
theorem dX8_come_191 : decode cX8_come 191 = .ok (.iload 8, 2) := by decide +kernel
theorem dX8_come_193 : decode cX8_come 193 = .ok (.invokestatic 59, 3) := by decide +kernel
theorem dX8_come_196 : decode cX8_come 196 = .ok (.dup2, 1) := by decide +kernel
theorem dX8_come_197 : decode cX8_come 197 = .ok (.laload, 1) := by decide +kernel
theorem dX8_come_198 : decode cX8_come 198 = .ok (.iload 5, 2) := by decide +kernel
theorem dX8_come_200 : decode cX8_come 200 = .ok (.i2l, 1) := by decide +kernel
theorem dX8_come_201 : decode cX8_come 201 = .ok (.ladd, 1) := by decide +kernel
theorem dX8_come_202 : decode cX8_come 202 = .ok (.lastore, 1) := by decide +kernel
theorem dX8_come_203 : decode cX8_come 203 = .ok (.iload 9, 2) := by decide +kernel
theorem dX8_come_205 : decode cX8_come 205 = .ok (.ifCond .eq 7, 3) := by decide +kernel
theorem dX8_come_208 : decode cX8_come 208 = .ok (.iconst 1, 1) := by decide +kernel
theorem dX8_come_209 : decode cX8_come 209 = .ok (.goto 4, 3) := by decide +kernel
theorem dX8_come_212 : decode cX8_come 212 = .ok (.iconst 0, 1) := by decide +kernel
theorem dX8_come_213 : decode cX8_come 213 = .ok (.ireturn, 1) := by decide +kernel
theorem dX8_areUnits_0 : decode cX8_areUnits 0 = .ok (.iload_n 0, 1) := by decide +kernel
theorem dX8_areUnits_1 : decode cX8_areUnits 1 = .ok (.iconst 1, 1) := by decide +kernel
theorem dX8_areUnits_2 : decode cX8_areUnits 2 = .ok (.if_icmp .lt 13, 3) := by decide +kernel
theorem dX8_areUnits_5 : decode cX8_areUnits 5 = .ok (.iload_n 0, 1) := by decide +kernel
theorem dX8_areUnits_6 : decode cX8_areUnits 6 = .ok (.ldc 63, 2) := by decide +kernel
theorem dX8_areUnits_8 : decode cX8_areUnits 8 = .ok (.if_icmp .gt 7, 3) := by decide +kernel
theorem dX8_areUnits_11 : decode cX8_areUnits 11 = .ok (.iconst 1, 1) := by decide +kernel
theorem dX8_areUnits_12 : decode cX8_areUnits 12 = .ok (.goto 4, 3) := by decide +kernel
theorem dX8_areUnits_15 : decode cX8_areUnits 15 = .ok (.iconst 0, 1) := by decide +kernel
theorem dX8_areUnits_16 : decode cX8_areUnits 16 = .ok (.ireturn, 1) := by decide +kernel
theorem dX8_event_0 : decode cX8_event 0 = .ok (.aload_n 0, 1) := by decide +kernel
theorem dX8_event_1 : decode cX8_event 1 = .ok (.iload_n 3, 1) := by decide +kernel
theorem dX8_event_2 : decode cX8_event 2 = .ok (.invokevirtual 11, 3) := by decide +kernel
theorem dX8_event_5 : decode cX8_event 5 = .ok (.ifCond .eq 24, 3) := by decide +kernel
theorem dX8_event_8 : decode cX8_event 8 = .ok (.iload 4, 2) := by decide +kernel
theorem dX8_event_10 : decode cX8_event 10 = .ok (.invokestatic 28, 3) := by decide +kernel
theorem dX8_event_13 : decode cX8_event 13 = .ok (.ifCond .eq 16, 3) := by decide +kernel
theorem dX8_event_16 : decode cX8_event 16 = .ok (.iload 5, 2) := by decide +kernel
theorem dX8_event_18 : decode cX8_event 18 = .ok (.invokestatic 64, 3) := by decide +kernel
theorem dX8_event_21 : decode cX8_event 21 = .ok (.ifCond .eq 8, 3) := by decide +kernel
theorem dX8_event_24 : decode cX8_event 24 = .ok (.iload 6, 2) := by decide +kernel
theorem dX8_event_26 : decode cX8_event 26 = .ok (.ifCond .ge 6, 3) := by decide +kernel
theorem dX8_event_29 : decode cX8_event 29 = .ok (.bipush (-2), 2) := by decide +kernel
theorem dX8_event_31 : decode cX8_event 31 = .ok (.ireturn, 1) := by decide +kernel
theorem dX8_event_32 : decode cX8_event 32 = .ok (.aload_n 0, 1) := by decide +kernel
theorem dX8_event_33 : decode cX8_event 33 = .ok (.lload_n 1, 1) := by decide +kernel
theorem dX8_event_34 : decode cX8_event 34 = .ok (.iload_n 3, 1) := by decide +kernel
theorem dX8_event_35 : decode cX8_event 35 = .ok (.iload 4, 2) := by decide +kernel
theorem dX8_event_37 : decode cX8_event 37 = .ok (.iload 5, 2) := by decide +kernel
theorem dX8_event_39 : decode cX8_event 39 = .ok (.iload 6, 2) := by decide +kernel
theorem dX8_event_41 : decode cX8_event 41 = .ok (.invokevirtual 67, 3) := by decide +kernel
theorem dX8_event_44 : decode cX8_event 44 = .ok (.ireturn, 1) := by decide +kernel
theorem dX8_used_0 : decode cX8_used 0 = .ok (.aload_n 0, 1) := by decide +kernel
theorem dX8_used_1 : decode cX8_used 1 = .ok (.iload_n 1, 1) := by decide +kernel
theorem dX8_used_2 : decode cX8_used 2 = .ok (.invokevirtual 11, 3) := by decide +kernel
theorem dX8_used_5 : decode cX8_used 5 = .ok (.ifCond .eq 30, 3) := by decide +kernel
theorem dX8_used_8 : decode cX8_used 8 = .ok (.iload_n 2, 1) := by decide +kernel
theorem dX8_used_9 : decode cX8_used 9 = .ok (.invokestatic 28, 3) := by decide +kernel
theorem dX8_used_12 : decode cX8_used 12 = .ok (.ifCond .eq 23, 3) := by decide +kernel
theorem dX8_used_15 : decode cX8_used 15 = .ok (.iload_n 3, 1) := by decide +kernel
theorem dX8_used_16 : decode cX8_used 16 = .ok (.ifCond .lt 19, 3) := by decide +kernel
theorem dX8_used_19 : decode cX8_used 19 = .ok (.iload_n 3, 1) := by decide +kernel
theorem dX8_used_20 : decode cX8_used 20 = .ok (.bipush 100, 2) := by decide +kernel
theorem dX8_used_22 : decode cX8_used 22 = .ok (.if_icmp .ge 13, 3) := by decide +kernel
theorem dX8_used_25 : decode cX8_used 25 = .ok (.aload_n 0, 1) := by decide +kernel
theorem dX8_used_26 : decode cX8_used 26 = .ok (.iload_n 1, 1) := by decide +kernel
theorem dX8_used_27 : decode cX8_used 27 = .ok (.iload_n 2, 1) := by decide +kernel
theorem dX8_used_28 : decode cX8_used 28 = .ok (.iload_n 3, 1) := by decide +kernel
theorem dX8_used_29 : decode cX8_used 29 = .ok (.invokevirtual 71, 3) := by decide +kernel
theorem dX8_used_32 : decode cX8_used 32 = .ok (.goto 6, 3) := by decide +kernel
theorem dX8_used_35 : decode cX8_used 35 = .ok (.ldc2_w 75, 3) := by decide +kernel
theorem dX8_used_38 : decode cX8_used 38 = .ok (.lreturn, 1) := by decide +kernel
theorem dX8_usedOf_0 : decode cX8_usedOf 0 = .ok (.lconst 0, 1) := by decide +kernel
theorem dX8_usedOf_1 : decode cX8_usedOf 1 = .ok (.lstore 4, 2) := by decide +kernel
theorem dX8_usedOf_3 : decode cX8_usedOf 3 = .ok (.iconst 0, 1) := by decide +kernel
theorem dX8_usedOf_4 : decode cX8_usedOf 4 = .ok (.istore 6, 2) := by decide +kernel
theorem dX8_usedOf_6 : decode cX8_usedOf 6 = .ok (.iload 6, 2) := by decide +kernel
theorem dX8_usedOf_8 : decode cX8_usedOf 8 = .ok (.aload_n 0, 1) := by decide +kernel
theorem dX8_usedOf_9 : decode cX8_usedOf 9 = .ok (.getfield 3, 3) := by decide +kernel
theorem dX8_usedOf_12 : decode cX8_usedOf 12 = .ok (.if_icmp .ge 40, 3) := by decide +kernel
theorem dX8_usedOf_15 : decode cX8_usedOf 15 = .ok (.lload 4, 2) := by decide +kernel
theorem dX8_usedOf_17 : decode cX8_usedOf 17 = .ok (.aload_n 0, 1) := by decide +kernel
theorem dX8_usedOf_18 : decode cX8_usedOf 18 = .ok (.iload 6, 2) := by decide +kernel
theorem dX8_usedOf_20 : decode cX8_usedOf 20 = .ok (.iload_n 1, 1) := by decide +kernel
theorem dX8_usedOf_21 : decode cX8_usedOf 21 = .ok (.invokevirtual 77, 3) := by decide +kernel
theorem dX8_usedOf_24 : decode cX8_usedOf 24 = .ok (.ifCond .eq 18, 3) := by decide +kernel
theorem dX8_usedOf_27 : decode cX8_usedOf 27 = .ok (.aload_n 0, 1) := by decide +kernel
theorem dX8_usedOf_28 : decode cX8_usedOf 28 = .ok (.getfield 56, 3) := by decide +kernel
theorem dX8_usedOf_31 : decode cX8_usedOf 31 = .ok (.iload 6, 2) := by decide +kernel
theorem dX8_usedOf_33 : decode cX8_usedOf 33 = .ok (.iload_n 2, 1) := by decide +kernel
theorem dX8_usedOf_34 : decode cX8_usedOf 34 = .ok (.iload_n 3, 1) := by decide +kernel
theorem dX8_usedOf_35 : decode cX8_usedOf 35 = .ok (.invokestatic 59, 3) := by decide +kernel
theorem dX8_usedOf_38 : decode cX8_usedOf 38 = .ok (.laload, 1) := by decide +kernel
theorem dX8_usedOf_39 : decode cX8_usedOf 39 = .ok (.goto 4, 3) := by decide +kernel
theorem dX8_usedOf_42 : decode cX8_usedOf 42 = .ok (.lconst 0, 1) := by decide +kernel
theorem dX8_usedOf_43 : decode cX8_usedOf 43 = .ok (.ladd, 1) := by decide +kernel
theorem dX8_usedOf_44 : decode cX8_usedOf 44 = .ok (.lstore 4, 2) := by decide +kernel
theorem dX8_usedOf_46 : decode cX8_usedOf 46 = .ok (.iinc 6 1, 3) := by decide +kernel
theorem dX8_usedOf_49 : decode cX8_usedOf 49 = .ok (.goto (-43), 3) := by decide +kernel
theorem dX8_usedOf_52 : decode cX8_usedOf 52 = .ok (.lload 4, 2) := by decide +kernel
theorem dX8_usedOf_54 : decode cX8_usedOf 54 = .ok (.lreturn, 1) := by decide +kernel
theorem dX8_isOpen_0 : decode cX8_isOpen 0 = .ok (.iload_n 1, 1) := by decide +kernel
theorem dX8_isOpen_1 : decode cX8_isOpen 1 = .ok (.ifCond .lt 40, 3) := by decide +kernel
theorem dX8_isOpen_4 : decode cX8_isOpen 4 = .ok (.iload_n 1, 1) := by decide +kernel
theorem dX8_isOpen_5 : decode cX8_isOpen 5 = .ok (.aload_n 0, 1) := by decide +kernel
theorem dX8_isOpen_6 : decode cX8_isOpen 6 = .ok (.getfield 81, 3) := by decide +kernel
theorem dX8_isOpen_9 : decode cX8_isOpen 9 = .ok (.if_icmp .ge 32, 3) := by decide +kernel
theorem dX8_isOpen_12 : decode cX8_isOpen 12 = .ok (.aload_n 0, 1) := by decide +kernel
theorem dX8_isOpen_13 : decode cX8_isOpen 13 = .ok (.getfield 84, 3) := by decide +kernel
theorem dX8_isOpen_16 : decode cX8_isOpen 16 = .ok (.iload_n 1, 1) := by decide +kernel
theorem dX8_isOpen_17 : decode cX8_isOpen 17 = .ok (.baload, 1) := by decide +kernel
theorem dX8_isOpen_18 : decode cX8_isOpen 18 = .ok (.ifCond .ne 23, 3) := by decide +kernel
theorem dX8_isOpen_21 : decode cX8_isOpen 21 = .ok (.aload_n 0, 1) := by decide +kernel
theorem dX8_isOpen_22 : decode cX8_isOpen 22 = .ok (.getfield 24, 3) := by decide +kernel
theorem dX8_isOpen_25 : decode cX8_isOpen 25 = .ok (.aload_n 0, 1) := by decide +kernel
theorem dX8_isOpen_26 : decode cX8_isOpen 26 = .ok (.getfield 88, 3) := by decide +kernel
theorem dX8_isOpen_29 : decode cX8_isOpen 29 = .ok (.iload_n 1, 1) := by decide +kernel
theorem dX8_isOpen_30 : decode cX8_isOpen 30 = .ok (.iaload, 1) := by decide +kernel
theorem dX8_isOpen_31 : decode cX8_isOpen 31 = .ok (.bipush 60, 2) := by decide +kernel
theorem dX8_isOpen_33 : decode cX8_isOpen 33 = .ok (.iadd, 1) := by decide +kernel
theorem dX8_isOpen_34 : decode cX8_isOpen 34 = .ok (.if_icmp .ge 7, 3) := by decide +kernel
theorem dX8_isOpen_37 : decode cX8_isOpen 37 = .ok (.iconst 1, 1) := by decide +kernel
theorem dX8_isOpen_38 : decode cX8_isOpen 38 = .ok (.goto 4, 3) := by decide +kernel
theorem dX8_isOpen_41 : decode cX8_isOpen 41 = .ok (.iconst 0, 1) := by decide +kernel
theorem dX8_isOpen_42 : decode cX8_isOpen 42 = .ok (.ireturn, 1) := by decide +kernel
theorem dX8_open_0 : decode cX8_open 0 = .ok (.iconst 0, 1) := by decide +kernel
theorem dX8_open_1 : decode cX8_open 1 = .ok (.istore_n 1, 1) := by decide +kernel
theorem dX8_open_2 : decode cX8_open 2 = .ok (.iconst 0, 1) := by decide +kernel
theorem dX8_open_3 : decode cX8_open 3 = .ok (.istore_n 2, 1) := by decide +kernel
theorem dX8_open_4 : decode cX8_open 4 = .ok (.iload_n 2, 1) := by decide +kernel
theorem dX8_open_5 : decode cX8_open 5 = .ok (.aload_n 0, 1) := by decide +kernel
theorem dX8_open_6 : decode cX8_open 6 = .ok (.getfield 81, 3) := by decide +kernel
theorem dX8_open_9 : decode cX8_open 9 = .ok (.if_icmp .ge 25, 3) := by decide +kernel
theorem dX8_open_12 : decode cX8_open 12 = .ok (.iload_n 1, 1) := by decide +kernel
theorem dX8_open_13 : decode cX8_open 13 = .ok (.aload_n 0, 1) := by decide +kernel
theorem dX8_open_14 : decode cX8_open 14 = .ok (.iload_n 2, 1) := by decide +kernel
theorem dX8_open_15 : decode cX8_open 15 = .ok (.invokevirtual 91, 3) := by decide +kernel
theorem dX8_open_18 : decode cX8_open 18 = .ok (.ifCond .eq 7, 3) := by decide +kernel
theorem dX8_open_21 : decode cX8_open 21 = .ok (.iconst 1, 1) := by decide +kernel
theorem dX8_open_22 : decode cX8_open 22 = .ok (.goto 4, 3) := by decide +kernel
theorem dX8_open_25 : decode cX8_open 25 = .ok (.iconst 0, 1) := by decide +kernel
theorem dX8_open_26 : decode cX8_open 26 = .ok (.iadd, 1) := by decide +kernel
theorem dX8_open_27 : decode cX8_open 27 = .ok (.istore_n 1, 1) := by decide +kernel
theorem dX8_open_28 : decode cX8_open 28 = .ok (.iinc 2 1, 3) := by decide +kernel
theorem dX8_open_31 : decode cX8_open 31 = .ok (.goto (-27), 3) := by decide +kernel
theorem dX8_open_34 : decode cX8_open 34 = .ok (.iload_n 1, 1) := by decide +kernel
theorem dX8_open_35 : decode cX8_open 35 = .ok (.ireturn, 1) := by decide +kernel
theorem dX8_held_0 : decode cX8_held 0 = .ok (.aload_n 0, 1) := by decide +kernel
theorem dX8_held_1 : decode cX8_held 1 = .ok (.iload_n 1, 1) := by decide +kernel
theorem dX8_held_2 : decode cX8_held 2 = .ok (.invokevirtual 11, 3) := by decide +kernel
theorem dX8_held_5 : decode cX8_held 5 = .ok (.ifCond .eq 19, 3) := by decide +kernel
theorem dX8_held_8 : decode cX8_held 8 = .ok (.iload_n 2, 1) := by decide +kernel
theorem dX8_held_9 : decode cX8_held 9 = .ok (.invokestatic 28, 3) := by decide +kernel
theorem dX8_held_12 : decode cX8_held 12 = .ok (.ifCond .eq 12, 3) := by decide +kernel
theorem dX8_held_15 : decode cX8_held 15 = .ok (.aload_n 0, 1) := by decide +kernel
theorem dX8_held_16 : decode cX8_held 16 = .ok (.iload_n 1, 1) := by decide +kernel
theorem dX8_held_17 : decode cX8_held 17 = .ok (.iload_n 2, 1) := by decide +kernel
theorem dX8_held_18 : decode cX8_held 18 = .ok (.invokevirtual 94, 3) := by decide +kernel
theorem dX8_held_21 : decode cX8_held 21 = .ok (.goto 5, 3) := by decide +kernel
theorem dX8_held_24 : decode cX8_held 24 = .ok (.bipush (-2), 2) := by decide +kernel
theorem dX8_held_26 : decode cX8_held 26 = .ok (.ireturn, 1) := by decide +kernel
theorem dX8_heldOf_0 : decode cX8_heldOf 0 = .ok (.iconst 0, 1) := by decide +kernel
theorem dX8_heldOf_1 : decode cX8_heldOf 1 = .ok (.istore_n 3, 1) := by decide +kernel
theorem dX8_heldOf_2 : decode cX8_heldOf 2 = .ok (.iconst 0, 1) := by decide +kernel
theorem dX8_heldOf_3 : decode cX8_heldOf 3 = .ok (.istore 4, 2) := by decide +kernel
theorem dX8_heldOf_5 : decode cX8_heldOf 5 = .ok (.iload 4, 2) := by decide +kernel
theorem dX8_heldOf_7 : decode cX8_heldOf 7 = .ok (.aload_n 0, 1) := by decide +kernel
theorem dX8_heldOf_8 : decode cX8_heldOf 8 = .ok (.getfield 81, 3) := by decide +kernel
theorem dX8_heldOf_11 : decode cX8_heldOf 11 = .ok (.if_icmp .ge 58, 3) := by decide +kernel
theorem dX8_heldOf_14 : decode cX8_heldOf 14 = .ok (.iload_n 3, 1) := by decide +kernel
theorem dX8_heldOf_15 : decode cX8_heldOf 15 = .ok (.aload_n 0, 1) := by decide +kernel
theorem dX8_heldOf_16 : decode cX8_heldOf 16 = .ok (.iload 4, 2) := by decide +kernel
theorem dX8_heldOf_18 : decode cX8_heldOf 18 = .ok (.invokevirtual 91, 3) := by decide +kernel
theorem dX8_heldOf_21 : decode cX8_heldOf 21 = .ok (.ifCond .eq 39, 3) := by decide +kernel
theorem dX8_heldOf_24 : decode cX8_heldOf 24 = .ok (.aload_n 0, 1) := by decide +kernel
theorem dX8_heldOf_25 : decode cX8_heldOf 25 = .ok (.getfield 98, 3) := by decide +kernel
theorem dX8_heldOf_28 : decode cX8_heldOf 28 = .ok (.iload 4, 2) := by decide +kernel
theorem dX8_heldOf_30 : decode cX8_heldOf 30 = .ok (.iaload, 1) := by decide +kernel
theorem dX8_heldOf_31 : decode cX8_heldOf 31 = .ok (.iload_n 2, 1) := by decide +kernel
theorem dX8_heldOf_32 : decode cX8_heldOf 32 = .ok (.if_icmp .ne 28, 3) := by decide +kernel
theorem dX8_heldOf_35 : decode cX8_heldOf 35 = .ok (.aload_n 0, 1) := by decide +kernel
theorem dX8_heldOf_36 : decode cX8_heldOf 36 = .ok (.aload_n 0, 1) := by decide +kernel
theorem dX8_heldOf_37 : decode cX8_heldOf 37 = .ok (.getfield 101, 3) := by decide +kernel
theorem dX8_heldOf_40 : decode cX8_heldOf 40 = .ok (.iload 4, 2) := by decide +kernel
theorem dX8_heldOf_42 : decode cX8_heldOf 42 = .ok (.iaload, 1) := by decide +kernel
theorem dX8_heldOf_43 : decode cX8_heldOf 43 = .ok (.iload_n 1, 1) := by decide +kernel
theorem dX8_heldOf_44 : decode cX8_heldOf 44 = .ok (.invokevirtual 77, 3) := by decide +kernel
theorem dX8_heldOf_47 : decode cX8_heldOf 47 = .ok (.ifCond .eq 13, 3) := by decide +kernel
theorem dX8_heldOf_50 : decode cX8_heldOf 50 = .ok (.aload_n 0, 1) := by decide +kernel
theorem dX8_heldOf_51 : decode cX8_heldOf 51 = .ok (.getfield 104, 3) := by decide +kernel
theorem dX8_heldOf_54 : decode cX8_heldOf 54 = .ok (.iload 4, 2) := by decide +kernel
theorem dX8_heldOf_56 : decode cX8_heldOf 56 = .ok (.iaload, 1) := by decide +kernel
theorem dX8_heldOf_57 : decode cX8_heldOf 57 = .ok (.goto 4, 3) := by decide +kernel
theorem dX8_heldOf_60 : decode cX8_heldOf 60 = .ok (.iconst 0, 1) := by decide +kernel
theorem dX8_heldOf_61 : decode cX8_heldOf 61 = .ok (.iadd, 1) := by decide +kernel
theorem dX8_heldOf_62 : decode cX8_heldOf 62 = .ok (.istore_n 3, 1) := by decide +kernel
theorem dX8_heldOf_63 : decode cX8_heldOf 63 = .ok (.iinc 4 1, 3) := by decide +kernel
theorem dX8_heldOf_66 : decode cX8_heldOf 66 = .ok (.goto (-61), 3) := by decide +kernel
theorem dX8_heldOf_69 : decode cX8_heldOf 69 = .ok (.iload_n 3, 1) := by decide +kernel
theorem dX8_heldOf_70 : decode cX8_heldOf 70 = .ok (.ireturn, 1) := by decide +kernel
theorem dX8_roomOf_0 : decode cX8_roomOf 0 = .ok (.ldc2_w 107, 3) := by decide +kernel
theorem dX8_roomOf_3 : decode cX8_roomOf 3 = .ok (.lstore_n 3, 1) := by decide +kernel
theorem dX8_roomOf_4 : decode cX8_roomOf 4 = .ok (.iload_n 1, 1) := by decide +kernel
theorem dX8_roomOf_5 : decode cX8_roomOf 5 = .ok (.istore 5, 2) := by decide +kernel
theorem dX8_roomOf_7 : decode cX8_roomOf 7 = .ok (.iload 5, 2) := by decide +kernel
theorem dX8_roomOf_9 : decode cX8_roomOf 9 = .ok (.iconst (-1), 1) := by decide +kernel
theorem dX8_roomOf_10 : decode cX8_roomOf 10 = .ok (.if_icmp .eq 72, 3) := by decide +kernel
theorem dX8_roomOf_13 : decode cX8_roomOf 13 = .ok (.aload_n 0, 1) := by decide +kernel
theorem dX8_roomOf_14 : decode cX8_roomOf 14 = .ok (.getfield 21, 3) := by decide +kernel
theorem dX8_roomOf_17 : decode cX8_roomOf 17 = .ok (.iconst 4, 1) := by decide +kernel
theorem dX8_roomOf_18 : decode cX8_roomOf 18 = .ok (.iload 5, 2) := by decide +kernel
theorem dX8_roomOf_20 : decode cX8_roomOf 20 = .ok (.imul, 1) := by decide +kernel
theorem dX8_roomOf_21 : decode cX8_roomOf 21 = .ok (.iload_n 2, 1) := by decide +kernel
theorem dX8_roomOf_22 : decode cX8_roomOf 22 = .ok (.iadd, 1) := by decide +kernel
theorem dX8_roomOf_23 : decode cX8_roomOf 23 = .ok (.iaload, 1) := by decide +kernel
theorem dX8_roomOf_24 : decode cX8_roomOf 24 = .ok (.iconst (-1), 1) := by decide +kernel
theorem dX8_roomOf_25 : decode cX8_roomOf 25 = .ok (.if_icmp .eq 45, 3) := by decide +kernel
theorem dX8_roomOf_28 : decode cX8_roomOf 28 = .ok (.lload_n 3, 1) := by decide +kernel
theorem dX8_roomOf_29 : decode cX8_roomOf 29 = .ok (.aload_n 0, 1) := by decide +kernel
theorem dX8_roomOf_30 : decode cX8_roomOf 30 = .ok (.getfield 21, 3) := by decide +kernel
theorem dX8_roomOf_33 : decode cX8_roomOf 33 = .ok (.iconst 4, 1) := by decide +kernel
theorem dX8_roomOf_34 : decode cX8_roomOf 34 = .ok (.iload 5, 2) := by decide +kernel
theorem dX8_roomOf_36 : decode cX8_roomOf 36 = .ok (.imul, 1) := by decide +kernel
theorem dX8_roomOf_37 : decode cX8_roomOf 37 = .ok (.iload_n 2, 1) := by decide +kernel
theorem dX8_roomOf_38 : decode cX8_roomOf 38 = .ok (.iadd, 1) := by decide +kernel
theorem dX8_roomOf_39 : decode cX8_roomOf 39 = .ok (.iaload, 1) := by decide +kernel
theorem dX8_roomOf_40 : decode cX8_roomOf 40 = .ok (.i2l, 1) := by decide +kernel
theorem dX8_roomOf_41 : decode cX8_roomOf 41 = .ok (.aload_n 0, 1) := by decide +kernel
theorem dX8_roomOf_42 : decode cX8_roomOf 42 = .ok (.iload 5, 2) := by decide +kernel
theorem dX8_roomOf_44 : decode cX8_roomOf 44 = .ok (.iload_n 2, 1) := by decide +kernel
theorem dX8_roomOf_45 : decode cX8_roomOf 45 = .ok (.aload_n 0, 1) := by decide +kernel
theorem dX8_roomOf_46 : decode cX8_roomOf 46 = .ok (.getfield 24, 3) := by decide +kernel
theorem dX8_roomOf_49 : decode cX8_roomOf 49 = .ok (.sipush 1000, 3) := by decide +kernel
theorem dX8_roomOf_52 : decode cX8_roomOf 52 = .ok (.idiv, 1) := by decide +kernel
theorem dX8_roomOf_53 : decode cX8_roomOf 53 = .ok (.invokevirtual 71, 3) := by decide +kernel
theorem dX8_roomOf_56 : decode cX8_roomOf 56 = .ok (.lsub, 1) := by decide +kernel
theorem dX8_roomOf_57 : decode cX8_roomOf 57 = .ok (.aload_n 0, 1) := by decide +kernel
theorem dX8_roomOf_58 : decode cX8_roomOf 58 = .ok (.iload 5, 2) := by decide +kernel
theorem dX8_roomOf_60 : decode cX8_roomOf 60 = .ok (.iload_n 2, 1) := by decide +kernel
theorem dX8_roomOf_61 : decode cX8_roomOf 61 = .ok (.invokevirtual 94, 3) := by decide +kernel
theorem dX8_roomOf_64 : decode cX8_roomOf 64 = .ok (.i2l, 1) := by decide +kernel
theorem dX8_roomOf_65 : decode cX8_roomOf 65 = .ok (.lsub, 1) := by decide +kernel
theorem dX8_roomOf_66 : decode cX8_roomOf 66 = .ok (.invokestatic 109, 3) := by decide +kernel
theorem dX8_roomOf_69 : decode cX8_roomOf 69 = .ok (.lstore_n 3, 1) := by decide +kernel
theorem dX8_roomOf_70 : decode cX8_roomOf 70 = .ok (.aload_n 0, 1) := by decide +kernel
theorem dX8_roomOf_71 : decode cX8_roomOf 71 = .ok (.getfield 18, 3) := by decide +kernel
theorem dX8_roomOf_74 : decode cX8_roomOf 74 = .ok (.iload 5, 2) := by decide +kernel
theorem dX8_roomOf_76 : decode cX8_roomOf 76 = .ok (.iaload, 1) := by decide +kernel
theorem dX8_roomOf_77 : decode cX8_roomOf 77 = .ok (.istore 5, 2) := by decide +kernel
theorem dX8_roomOf_79 : decode cX8_roomOf 79 = .ok (.goto (-72), 3) := by decide +kernel
theorem dX8_roomOf_82 : decode cX8_roomOf 82 = .ok (.lload_n 3, 1) := by decide +kernel
theorem dX8_roomOf_83 : decode cX8_roomOf 83 = .ok (.lreturn, 1) := by decide +kernel
theorem dX8_room_0 : decode cX8_room 0 = .ok (.aload_n 0, 1) := by decide +kernel
theorem dX8_room_1 : decode cX8_room 1 = .ok (.iload_n 1, 1) := by decide +kernel
theorem dX8_room_2 : decode cX8_room 2 = .ok (.invokevirtual 11, 3) := by decide +kernel
theorem dX8_room_5 : decode cX8_room 5 = .ok (.ifCond .eq 24, 3) := by decide +kernel
theorem dX8_room_8 : decode cX8_room 8 = .ok (.iload_n 2, 1) := by decide +kernel
theorem dX8_room_9 : decode cX8_room 9 = .ok (.invokestatic 28, 3) := by decide +kernel
theorem dX8_room_12 : decode cX8_room 12 = .ok (.ifCond .eq 17, 3) := by decide +kernel
theorem dX8_room_15 : decode cX8_room 15 = .ok (.lconst 0, 1) := by decide +kernel
theorem dX8_room_16 : decode cX8_room 16 = .ok (.aload_n 0, 1) := by decide +kernel
theorem dX8_room_17 : decode cX8_room 17 = .ok (.iload_n 1, 1) := by decide +kernel
theorem dX8_room_18 : decode cX8_room 18 = .ok (.iload_n 2, 1) := by decide +kernel
theorem dX8_room_19 : decode cX8_room 19 = .ok (.invokevirtual 115, 3) := by decide +kernel
theorem dX8_room_22 : decode cX8_room 22 = .ok (.invokestatic 119, 3) := by decide +kernel
theorem dX8_room_25 : decode cX8_room 25 = .ok (.l2i, 1) := by decide +kernel
theorem dX8_room_26 : decode cX8_room 26 = .ok (.goto 5, 3) := by decide +kernel
theorem dX8_room_29 : decode cX8_room 29 = .ok (.bipush (-2), 2) := by decide +kernel
theorem dX8_room_31 : decode cX8_room 31 = .ok (.ireturn, 1) := by decide +kernel
theorem dX8_request_0 : decode cX8_request 0 = .ok (.aload_n 0, 1) := by decide +kernel
theorem dX8_request_1 : decode cX8_request 1 = .ok (.iload_n 1, 1) := by decide +kernel
theorem dX8_request_2 : decode cX8_request 2 = .ok (.invokevirtual 11, 3) := by decide +kernel
theorem dX8_request_5 : decode cX8_request 5 = .ok (.ifCond .eq 17, 3) := by decide +kernel
theorem dX8_request_8 : decode cX8_request 8 = .ok (.iload_n 2, 1) := by decide +kernel
theorem dX8_request_9 : decode cX8_request 9 = .ok (.invokestatic 28, 3) := by decide +kernel
theorem dX8_request_12 : decode cX8_request 12 = .ok (.ifCond .eq 10, 3) := by decide +kernel
theorem dX8_request_15 : decode cX8_request 15 = .ok (.iload_n 3, 1) := by decide +kernel
theorem dX8_request_16 : decode cX8_request 16 = .ok (.invokestatic 64, 3) := by decide +kernel
theorem dX8_request_19 : decode cX8_request 19 = .ok (.ifCond .ne 6, 3) := by decide +kernel
theorem dX8_request_22 : decode cX8_request 22 = .ok (.bipush (-2), 2) := by decide +kernel
theorem dX8_request_24 : decode cX8_request 24 = .ok (.ireturn, 1) := by decide +kernel
theorem dX8_request_25 : decode cX8_request 25 = .ok (.aload_n 0, 1) := by decide +kernel
theorem dX8_request_26 : decode cX8_request 26 = .ok (.invokevirtual 122, 3) := by decide +kernel
theorem dX8_request_29 : decode cX8_request 29 = .ok (.bipush 40, 2) := by decide +kernel
theorem dX8_request_31 : decode cX8_request 31 = .ok (.if_icmp .eq 13, 3) := by decide +kernel
theorem dX8_request_34 : decode cX8_request 34 = .ok (.aload_n 0, 1) := by decide +kernel
theorem dX8_request_35 : decode cX8_request 35 = .ok (.getfield 81, 3) := by decide +kernel
theorem dX8_request_38 : decode cX8_request 38 = .ok (.sipush 200, 3) := by decide +kernel
theorem dX8_request_41 : decode cX8_request 41 = .ok (.if_icmp .ne 6, 3) := by decide +kernel
theorem dX8_request_44 : decode cX8_request 44 = .ok (.bipush (-3), 2) := by decide +kernel
theorem dX8_request_46 : decode cX8_request 46 = .ok (.ireturn, 1) := by decide +kernel
theorem dX8_request_47 : decode cX8_request 47 = .ok (.iload_n 3, 1) := by decide +kernel
theorem dX8_request_48 : decode cX8_request 48 = .ok (.i2l, 1) := by decide +kernel
theorem dX8_request_49 : decode cX8_request 49 = .ok (.aload_n 0, 1) := by decide +kernel
theorem dX8_request_50 : decode cX8_request 50 = .ok (.iload_n 1, 1) := by decide +kernel
theorem dX8_request_51 : decode cX8_request 51 = .ok (.iload_n 2, 1) := by decide +kernel
theorem dX8_request_52 : decode cX8_request 52 = .ok (.invokevirtual 115, 3) := by decide +kernel
theorem dX8_request_55 : decode cX8_request 55 = .ok (.lcmp, 1) := by decide +kernel
theorem dX8_request_56 : decode cX8_request 56 = .ok (.ifCond .le 6, 3) := by decide +kernel
theorem dX8_request_59 : decode cX8_request 59 = .ok (.bipush (-7), 2) := by decide +kernel
theorem dX8_request_61 : decode cX8_request 61 = .ok (.ireturn, 1) := by decide +kernel
theorem dX8_request_62 : decode cX8_request 62 = .ok (.aload_n 0, 1) := by decide +kernel
theorem dX8_request_63 : decode cX8_request 63 = .ok (.getfield 101, 3) := by decide +kernel
theorem dX8_request_66 : decode cX8_request 66 = .ok (.aload_n 0, 1) := by decide +kernel
theorem dX8_request_67 : decode cX8_request 67 = .ok (.getfield 81, 3) := by decide +kernel
theorem dX8_request_70 : decode cX8_request 70 = .ok (.iload_n 1, 1) := by decide +kernel
theorem dX8_request_71 : decode cX8_request 71 = .ok (.iastore, 1) := by decide +kernel
theorem dX8_request_72 : decode cX8_request 72 = .ok (.aload_n 0, 1) := by decide +kernel
theorem dX8_request_73 : decode cX8_request 73 = .ok (.getfield 98, 3) := by decide +kernel
theorem dX8_request_76 : decode cX8_request 76 = .ok (.aload_n 0, 1) := by decide +kernel
theorem dX8_request_77 : decode cX8_request 77 = .ok (.getfield 81, 3) := by decide +kernel
theorem dX8_request_80 : decode cX8_request 80 = .ok (.iload_n 2, 1) := by decide +kernel
theorem dX8_request_81 : decode cX8_request 81 = .ok (.iastore, 1) := by decide +kernel
theorem dX8_request_82 : decode cX8_request 82 = .ok (.aload_n 0, 1) := by decide +kernel
theorem dX8_request_83 : decode cX8_request 83 = .ok (.getfield 104, 3) := by decide +kernel
theorem dX8_request_86 : decode cX8_request 86 = .ok (.aload_n 0, 1) := by decide +kernel
theorem dX8_request_87 : decode cX8_request 87 = .ok (.getfield 81, 3) := by decide +kernel
theorem dX8_request_90 : decode cX8_request 90 = .ok (.iload_n 3, 1) := by decide +kernel
theorem dX8_request_91 : decode cX8_request 91 = .ok (.iastore, 1) := by decide +kernel
theorem dX8_request_92 : decode cX8_request 92 = .ok (.aload_n 0, 1) := by decide +kernel
theorem dX8_request_93 : decode cX8_request 93 = .ok (.getfield 88, 3) := by decide +kernel
theorem dX8_request_96 : decode cX8_request 96 = .ok (.aload_n 0, 1) := by decide +kernel
theorem dX8_request_97 : decode cX8_request 97 = .ok (.getfield 81, 3) := by decide +kernel
theorem dX8_request_100 : decode cX8_request 100 = .ok (.aload_n 0, 1) := by decide +kernel
theorem dX8_request_101 : decode cX8_request 101 = .ok (.getfield 24, 3) := by decide +kernel
theorem dX8_request_104 : decode cX8_request 104 = .ok (.iastore, 1) := by decide +kernel
theorem dX8_request_105 : decode cX8_request 105 = .ok (.aload_n 0, 1) := by decide +kernel
theorem dX8_request_106 : decode cX8_request 106 = .ok (.getfield 84, 3) := by decide +kernel
theorem dX8_request_109 : decode cX8_request 109 = .ok (.aload_n 0, 1) := by decide +kernel
theorem dX8_request_110 : decode cX8_request 110 = .ok (.getfield 81, 3) := by decide +kernel
theorem dX8_request_113 : decode cX8_request 113 = .ok (.iconst 0, 1) := by decide +kernel
theorem dX8_request_114 : decode cX8_request 114 = .ok (.bastore, 1) := by decide +kernel
theorem dX8_request_115 : decode cX8_request 115 = .ok (.aload_n 0, 1) := by decide +kernel
theorem dX8_request_116 : decode cX8_request 116 = .ok (.dup, 1) := by decide +kernel
theorem dX8_request_117 : decode cX8_request 117 = .ok (.getfield 81, 3) := by decide +kernel
theorem dX8_request_120 : decode cX8_request 120 = .ok (.iconst 1, 1) := by decide +kernel
theorem dX8_request_121 : decode cX8_request 121 = .ok (.iadd, 1) := by decide +kernel
theorem dX8_request_122 : decode cX8_request 122 = .ok (.putfield 81, 3) := by decide +kernel
theorem dX8_request_125 : decode cX8_request 125 = .ok (.aload_n 0, 1) := by decide +kernel
theorem dX8_request_126 : decode cX8_request 126 = .ok (.getfield 81, 3) := by decide +kernel
theorem dX8_request_129 : decode cX8_request 129 = .ok (.iconst 1, 1) := by decide +kernel
theorem dX8_request_130 : decode cX8_request 130 = .ok (.isub, 1) := by decide +kernel
theorem dX8_request_131 : decode cX8_request 131 = .ok (.ireturn, 1) := by decide +kernel
theorem dX8_settle_0 : decode cX8_settle 0 = .ok (.aload_n 0, 1) := by decide +kernel
theorem dX8_settle_1 : decode cX8_settle 1 = .ok (.iload_n 1, 1) := by decide +kernel
theorem dX8_settle_2 : decode cX8_settle 2 = .ok (.invokevirtual 91, 3) := by decide +kernel
theorem dX8_settle_5 : decode cX8_settle 5 = .ok (.ifCond .eq 17, 3) := by decide +kernel
theorem dX8_settle_8 : decode cX8_settle 8 = .ok (.iload_n 2, 1) := by decide +kernel
theorem dX8_settle_9 : decode cX8_settle 9 = .ok (.ifCond .lt 13, 3) := by decide +kernel
theorem dX8_settle_12 : decode cX8_settle 12 = .ok (.iload_n 2, 1) := by decide +kernel
theorem dX8_settle_13 : decode cX8_settle 13 = .ok (.aload_n 0, 1) := by decide +kernel
theorem dX8_settle_14 : decode cX8_settle 14 = .ok (.getfield 104, 3) := by decide +kernel
theorem dX8_settle_17 : decode cX8_settle 17 = .ok (.iload_n 1, 1) := by decide +kernel
theorem dX8_settle_18 : decode cX8_settle 18 = .ok (.iaload, 1) := by decide +kernel
theorem dX8_settle_19 : decode cX8_settle 19 = .ok (.if_icmp .le 6, 3) := by decide +kernel
theorem dX8_settle_22 : decode cX8_settle 22 = .ok (.bipush (-2), 2) := by decide +kernel
theorem dX8_settle_24 : decode cX8_settle 24 = .ok (.ireturn, 1) := by decide +kernel
theorem dX8_settle_25 : decode cX8_settle 25 = .ok (.iload_n 2, 1) := by decide +kernel
theorem dX8_settle_26 : decode cX8_settle 26 = .ok (.ifCond .ne 7, 3) := by decide +kernel
theorem dX8_settle_29 : decode cX8_settle 29 = .ok (.iconst 0, 1) := by decide +kernel
theorem dX8_settle_30 : decode cX8_settle 30 = .ok (.goto 25, 3) := by decide +kernel
theorem dX8_settle_33 : decode cX8_settle 33 = .ok (.aload_n 0, 1) := by decide +kernel
theorem dX8_settle_34 : decode cX8_settle 34 = .ok (.lload_n 3, 1) := by decide +kernel
theorem dX8_settle_35 : decode cX8_settle 35 = .ok (.aload_n 0, 1) := by decide +kernel
theorem dX8_settle_36 : decode cX8_settle 36 = .ok (.getfield 101, 3) := by decide +kernel
theorem dX8_settle_39 : decode cX8_settle 39 = .ok (.iload_n 1, 1) := by decide +kernel
theorem dX8_settle_40 : decode cX8_settle 40 = .ok (.iaload, 1) := by decide +kernel
theorem dX8_settle_41 : decode cX8_settle 41 = .ok (.aload_n 0, 1) := by decide +kernel
theorem dX8_settle_42 : decode cX8_settle 42 = .ok (.getfield 98, 3) := by decide +kernel
theorem dX8_settle_45 : decode cX8_settle 45 = .ok (.iload_n 1, 1) := by decide +kernel
theorem dX8_settle_46 : decode cX8_settle 46 = .ok (.iaload, 1) := by decide +kernel
theorem dX8_settle_47 : decode cX8_settle 47 = .ok (.iload_n 2, 1) := by decide +kernel
theorem dX8_settle_48 : decode cX8_settle 48 = .ok (.aload_n 0, 1) := by decide +kernel
theorem dX8_settle_49 : decode cX8_settle 49 = .ok (.getfield 24, 3) := by decide +kernel
theorem dX8_settle_52 : decode cX8_settle 52 = .ok (.invokevirtual 67, 3) := by decide +kernel
theorem dX8_settle_55 : decode cX8_settle 55 = .ok (.istore 5, 2) := by decide +kernel
theorem dX8_settle_57 : decode cX8_settle 57 = .ok (.aload_n 0, 1) := by decide +kernel
theorem dX8_settle_58 : decode cX8_settle 58 = .ok (.getfield 84, 3) := by decide +kernel
theorem dX8_settle_61 : decode cX8_settle 61 = .ok (.iload_n 1, 1) := by decide +kernel
theorem dX8_settle_62 : decode cX8_settle 62 = .ok (.iload 5, 2) := by decide +kernel
theorem dX8_settle_64 : decode cX8_settle 64 = .ok (.ifCond .lt 7, 3) := by decide +kernel
theorem dX8_settle_67 : decode cX8_settle 67 = .ok (.iconst 1, 1) := by decide +kernel
theorem dX8_settle_68 : decode cX8_settle 68 = .ok (.goto 4, 3) := by decide +kernel
theorem dX8_settle_71 : decode cX8_settle 71 = .ok (.iconst 0, 1) := by decide +kernel
theorem dX8_settle_72 : decode cX8_settle 72 = .ok (.bastore, 1) := by decide +kernel
theorem dX8_settle_73 : decode cX8_settle 73 = .ok (.iload 5, 2) := by decide +kernel
theorem dX8_settle_75 : decode cX8_settle 75 = .ok (.ireturn, 1) := by decide +kernel
theorem dX8_drop_0 : decode cX8_drop 0 = .ok (.aload_n 0, 1) := by decide +kernel
theorem dX8_drop_1 : decode cX8_drop 1 = .ok (.iload_n 1, 1) := by decide +kernel
theorem dX8_drop_2 : decode cX8_drop 2 = .ok (.invokevirtual 91, 3) := by decide +kernel
theorem dX8_drop_5 : decode cX8_drop 5 = .ok (.ifCond .ne 6, 3) := by decide +kernel
theorem dX8_drop_8 : decode cX8_drop 8 = .ok (.bipush (-2), 2) := by decide +kernel
theorem dX8_drop_10 : decode cX8_drop 10 = .ok (.ireturn, 1) := by decide +kernel
theorem dX8_drop_11 : decode cX8_drop 11 = .ok (.aload_n 0, 1) := by decide +kernel
theorem dX8_drop_12 : decode cX8_drop 12 = .ok (.getfield 84, 3) := by decide +kernel
theorem dX8_drop_15 : decode cX8_drop 15 = .ok (.iload_n 1, 1) := by decide +kernel
theorem dX8_drop_16 : decode cX8_drop 16 = .ok (.iconst 1, 1) := by decide +kernel
theorem dX8_drop_17 : decode cX8_drop 17 = .ok (.bastore, 1) := by decide +kernel
theorem dX8_drop_18 : decode cX8_drop 18 = .ok (.aload_n 0, 1) := by decide +kernel
theorem dX8_drop_19 : decode cX8_drop 19 = .ok (.getfield 104, 3) := by decide +kernel
theorem dX8_drop_22 : decode cX8_drop 22 = .ok (.iload_n 1, 1) := by decide +kernel
theorem dX8_drop_23 : decode cX8_drop 23 = .ok (.iaload, 1) := by decide +kernel
theorem dX8_drop_24 : decode cX8_drop 24 = .ok (.ireturn, 1) := by decide +kernel
theorem dX8_hold_0 : decode cX8_hold 0 = .ok (.iload_n 1, 1) := by decide +kernel
theorem dX8_hold_1 : decode cX8_hold 1 = .ok (.ifCond .lt 11, 3) := by decide +kernel
theorem dX8_hold_4 : decode cX8_hold 4 = .ok (.iload_n 1, 1) := by decide +kernel
theorem dX8_hold_5 : decode cX8_hold 5 = .ok (.aload_n 0, 1) := by decide +kernel
theorem dX8_hold_6 : decode cX8_hold 6 = .ok (.getfield 81, 3) := by decide +kernel
theorem dX8_hold_9 : decode cX8_hold 9 = .ok (.if_icmp .lt 6, 3) := by decide +kernel
theorem dX8_hold_12 : decode cX8_hold 12 = .ok (.bipush (-2), 2) := by decide +kernel
theorem dX8_hold_14 : decode cX8_hold 14 = .ok (.ireturn, 1) := by decide +kernel
theorem dX8_hold_15 : decode cX8_hold 15 = .ok (.iload_n 2, 1) := by decide +kernel
theorem dX8_hold_16 : decode cX8_hold 16 = .ok (.tableswitch 78 0 4 #[36, 43, 50, 57, 64], 36) := by decide +kernel
theorem dX8_hold_52 : decode cX8_hold 52 = .ok (.aload_n 0, 1) := by decide +kernel
theorem dX8_hold_53 : decode cX8_hold 53 = .ok (.getfield 101, 3) := by decide +kernel
theorem dX8_hold_56 : decode cX8_hold 56 = .ok (.iload_n 1, 1) := by decide +kernel
theorem dX8_hold_57 : decode cX8_hold 57 = .ok (.iaload, 1) := by decide +kernel
theorem dX8_hold_58 : decode cX8_hold 58 = .ok (.ireturn, 1) := by decide +kernel
theorem dX8_hold_59 : decode cX8_hold 59 = .ok (.aload_n 0, 1) := by decide +kernel
theorem dX8_hold_60 : decode cX8_hold 60 = .ok (.getfield 98, 3) := by decide +kernel
theorem dX8_hold_63 : decode cX8_hold 63 = .ok (.iload_n 1, 1) := by decide +kernel
theorem dX8_hold_64 : decode cX8_hold 64 = .ok (.iaload, 1) := by decide +kernel
theorem dX8_hold_65 : decode cX8_hold 65 = .ok (.ireturn, 1) := by decide +kernel
theorem dX8_hold_66 : decode cX8_hold 66 = .ok (.aload_n 0, 1) := by decide +kernel
theorem dX8_hold_67 : decode cX8_hold 67 = .ok (.getfield 104, 3) := by decide +kernel
theorem dX8_hold_70 : decode cX8_hold 70 = .ok (.iload_n 1, 1) := by decide +kernel
theorem dX8_hold_71 : decode cX8_hold 71 = .ok (.iaload, 1) := by decide +kernel
theorem dX8_hold_72 : decode cX8_hold 72 = .ok (.ireturn, 1) := by decide +kernel
theorem dX8_hold_73 : decode cX8_hold 73 = .ok (.aload_n 0, 1) := by decide +kernel
theorem dX8_hold_74 : decode cX8_hold 74 = .ok (.getfield 88, 3) := by decide +kernel
theorem dX8_hold_77 : decode cX8_hold 77 = .ok (.iload_n 1, 1) := by decide +kernel
theorem dX8_hold_78 : decode cX8_hold 78 = .ok (.iaload, 1) := by decide +kernel
theorem dX8_hold_79 : decode cX8_hold 79 = .ok (.ireturn, 1) := by decide +kernel
theorem dX8_hold_80 : decode cX8_hold 80 = .ok (.aload_n 0, 1) := by decide +kernel
theorem dX8_hold_81 : decode cX8_hold 81 = .ok (.iload_n 1, 1) := by decide +kernel
theorem dX8_hold_82 : decode cX8_hold 82 = .ok (.invokevirtual 91, 3) := by decide +kernel
theorem dX8_hold_85 : decode cX8_hold 85 = .ok (.ifCond .eq 7, 3) := by decide +kernel
theorem dX8_hold_88 : decode cX8_hold 88 = .ok (.iconst 1, 1) := by decide +kernel
theorem dX8_hold_89 : decode cX8_hold 89 = .ok (.goto 4, 3) := by decide +kernel
theorem dX8_hold_92 : decode cX8_hold 92 = .ok (.iconst 0, 1) := by decide +kernel
theorem dX8_hold_93 : decode cX8_hold 93 = .ok (.ireturn, 1) := by decide +kernel
theorem dX8_hold_94 : decode cX8_hold 94 = .ok (.bipush (-2), 2) := by decide +kernel
theorem dX8_hold_96 : decode cX8_hold 96 = .ok (.ireturn, 1) := by decide +kernel
theorem dX8_init_0 : decode cX8_init 0 = .ok (.aload_n 0, 1) := by decide +kernel
theorem dX8_init_1 : decode cX8_init 1 = .ok (.invokespecial 126, 3) := by decide +kernel
theorem dX8_init_4 : decode cX8_init 4 = .ok (.aload_n 0, 1) := by decide +kernel
theorem dX8_init_5 : decode cX8_init 5 = .ok (.bipush 24, 2) := by decide +kernel
theorem dX8_init_7 : decode cX8_init 7 = .ok (.newarray .int, 2) := by decide +kernel
theorem dX8_init_9 : decode cX8_init 9 = .ok (.putfield 14, 3) := by decide +kernel
theorem dX8_init_12 : decode cX8_init 12 = .ok (.aload_n 0, 1) := by decide +kernel
theorem dX8_init_13 : decode cX8_init 13 = .ok (.bipush 24, 2) := by decide +kernel
theorem dX8_init_15 : decode cX8_init 15 = .ok (.newarray .int, 2) := by decide +kernel
theorem dX8_init_17 : decode cX8_init 17 = .ok (.putfield 18, 3) := by decide +kernel
theorem dX8_init_20 : decode cX8_init 20 = .ok (.aload_n 0, 1) := by decide +kernel
theorem dX8_init_21 : decode cX8_init 21 = .ok (.bipush 96, 2) := by decide +kernel
theorem dX8_init_23 : decode cX8_init 23 = .ok (.newarray .int, 2) := by decide +kernel
theorem dX8_init_25 : decode cX8_init 25 = .ok (.putfield 21, 3) := by decide +kernel
end
section
theorem dX8_init_28 : decode cX8_init 28 = .ok (.aload_n 0, 1) := by decide +kernel
theorem dX8_init_29 : decode cX8_init 29 = .ok (.sipush 9600, 3) := by decide +kernel
theorem dX8_init_32 : decode cX8_init 32 = .ok (.newarray .long, 2) := by decide +kernel
theorem dX8_init_34 : decode cX8_init 34 = .ok (.putfield 56, 3) := by decide +kernel
theorem dX8_init_37 : decode cX8_init 37 = .ok (.aload_n 0, 1) := by decide +kernel
theorem dX8_init_38 : decode cX8_init 38 = .ok (.sipush 300, 3) := by decide +kernel
theorem dX8_init_41 : decode cX8_init 41 = .ok (.newarray .long, 2) := by decide +kernel
theorem dX8_init_43 : decode cX8_init 43 = .ok (.putfield 38, 3) := by decide +kernel
theorem dX8_init_46 : decode cX8_init 46 = .ok (.aload_n 0, 1) := by decide +kernel
theorem dX8_init_47 : decode cX8_init 47 = .ok (.sipush 300, 3) := by decide +kernel
theorem dX8_init_50 : decode cX8_init 50 = .ok (.newarray .int, 2) := by decide +kernel
theorem dX8_init_52 : decode cX8_init 52 = .ok (.putfield 42, 3) := by decide +kernel
theorem dX8_init_55 : decode cX8_init 55 = .ok (.aload_n 0, 1) := by decide +kernel
theorem dX8_init_56 : decode cX8_init 56 = .ok (.sipush 300, 3) := by decide +kernel
theorem dX8_init_59 : decode cX8_init 59 = .ok (.newarray .int, 2) := by decide +kernel
theorem dX8_init_61 : decode cX8_init 61 = .ok (.putfield 35, 3) := by decide +kernel
theorem dX8_init_64 : decode cX8_init 64 = .ok (.aload_n 0, 1) := by decide +kernel
theorem dX8_init_65 : decode cX8_init 65 = .ok (.sipush 200, 3) := by decide +kernel
theorem dX8_init_68 : decode cX8_init 68 = .ok (.newarray .int, 2) := by decide +kernel
theorem dX8_init_70 : decode cX8_init 70 = .ok (.putfield 101, 3) := by decide +kernel
theorem dX8_init_73 : decode cX8_init 73 = .ok (.aload_n 0, 1) := by decide +kernel
theorem dX8_init_74 : decode cX8_init 74 = .ok (.sipush 200, 3) := by decide +kernel
theorem dX8_init_77 : decode cX8_init 77 = .ok (.newarray .int, 2) := by decide +kernel
theorem dX8_init_79 : decode cX8_init 79 = .ok (.putfield 98, 3) := by decide +kernel
theorem dX8_init_82 : decode cX8_init 82 = .ok (.aload_n 0, 1) := by decide +kernel
theorem dX8_init_83 : decode cX8_init 83 = .ok (.sipush 200, 3) := by decide +kernel
theorem dX8_init_86 : decode cX8_init 86 = .ok (.newarray .int, 2) := by decide +kernel
theorem dX8_init_88 : decode cX8_init 88 = .ok (.putfield 104, 3) := by decide +kernel
theorem dX8_init_91 : decode cX8_init 91 = .ok (.aload_n 0, 1) := by decide +kernel
theorem dX8_init_92 : decode cX8_init 92 = .ok (.sipush 200, 3) := by decide +kernel
theorem dX8_init_95 : decode cX8_init 95 = .ok (.newarray .int, 2) := by decide +kernel
theorem dX8_init_97 : decode cX8_init 97 = .ok (.putfield 88, 3) := by decide +kernel
theorem dX8_init_100 : decode cX8_init 100 = .ok (.aload_n 0, 1) := by decide +kernel
theorem dX8_init_101 : decode cX8_init 101 = .ok (.sipush 200, 3) := by decide +kernel
theorem dX8_init_104 : decode cX8_init 104 = .ok (.newarray .boolean, 2) := by decide +kernel
theorem dX8_init_106 : decode cX8_init 106 = .ok (.putfield 84, 3) := by decide +kernel
theorem dX8_init_109 : decode cX8_init 109 = .ok (.aload_n 0, 1) := by decide +kernel
theorem dX8_init_110 : decode cX8_init 110 = .ok (.sipush 4752, 3) := by decide +kernel
theorem dX8_init_113 : decode cX8_init 113 = .ok (.newarray .long, 2) := by decide +kernel
theorem dX8_init_115 : decode cX8_init 115 = .ok (.putfield 131, 3) := by decide +kernel
theorem dX8_init_118 : decode cX8_init 118 = .ok (.aload_n 0, 1) := by decide +kernel
theorem dX8_init_119 : decode cX8_init 119 = .ok (.bipush 6, 2) := by decide +kernel
theorem dX8_init_121 : decode cX8_init 121 = .ok (.newarray .int, 2) := by decide +kernel
theorem dX8_init_123 : decode cX8_init 123 = .ok (.putfield 134, 3) := by decide +kernel
theorem dX8_init_126 : decode cX8_init 126 = .ok (.aload_n 0, 1) := by decide +kernel
theorem dX8_init_127 : decode cX8_init 127 = .ok (.bipush 6, 2) := by decide +kernel
theorem dX8_init_129 : decode cX8_init 129 = .ok (.newarray .long, 2) := by decide +kernel
theorem dX8_init_131 : decode cX8_init 131 = .ok (.putfield 137, 3) := by decide +kernel
theorem dX8_init_134 : decode cX8_init 134 = .ok (.aload_n 0, 1) := by decide +kernel
theorem dX8_init_135 : decode cX8_init 135 = .ok (.bipush 6, 2) := by decide +kernel
theorem dX8_init_137 : decode cX8_init 137 = .ok (.newarray .int, 2) := by decide +kernel
theorem dX8_init_139 : decode cX8_init 139 = .ok (.putfield 140, 3) := by decide +kernel
theorem dX8_init_142 : decode cX8_init 142 = .ok (.aload_n 0, 1) := by decide +kernel
theorem dX8_init_143 : decode cX8_init 143 = .ok (.bipush 6, 2) := by decide +kernel
theorem dX8_init_145 : decode cX8_init 145 = .ok (.newarray .int, 2) := by decide +kernel
theorem dX8_init_147 : decode cX8_init 147 = .ok (.putfield 143, 3) := by decide +kernel
theorem dX8_init_150 : decode cX8_init 150 = .ok (.aload_n 0, 1) := by decide +kernel
theorem dX8_init_151 : decode cX8_init 151 = .ok (.sipush 240, 3) := by decide +kernel
theorem dX8_init_154 : decode cX8_init 154 = .ok (.newarray .long, 2) := by decide +kernel
theorem dX8_init_156 : decode cX8_init 156 = .ok (.putfield 146, 3) := by decide +kernel
theorem dX8_init_159 : decode cX8_init 159 = .ok (.aload_n 0, 1) := by decide +kernel
theorem dX8_init_160 : decode cX8_init 160 = .ok (.sipush 240, 3) := by decide +kernel
theorem dX8_init_163 : decode cX8_init 163 = .ok (.newarray .int, 2) := by decide +kernel
theorem dX8_init_165 : decode cX8_init 165 = .ok (.putfield 149, 3) := by decide +kernel
theorem dX8_init_168 : decode cX8_init 168 = .ok (.aload_n 0, 1) := by decide +kernel
theorem dX8_init_169 : decode cX8_init 169 = .ok (.bipush 6, 2) := by decide +kernel
theorem dX8_init_171 : decode cX8_init 171 = .ok (.newarray .int, 2) := by decide +kernel
theorem dX8_init_173 : decode cX8_init 173 = .ok (.putfield 49, 3) := by decide +kernel
theorem dX8_init_176 : decode cX8_init 176 = .ok (.aload_n 0, 1) := by decide +kernel
theorem dX8_init_177 : decode cX8_init 177 = .ok (.bipush 24, 2) := by decide +kernel
theorem dX8_init_179 : decode cX8_init 179 = .ok (.newarray .long, 2) := by decide +kernel
theorem dX8_init_181 : decode cX8_init 181 = .ok (.putfield 152, 3) := by decide +kernel
theorem dX8_init_184 : decode cX8_init 184 = .ok (.aload_n 0, 1) := by decide +kernel
theorem dX8_init_185 : decode cX8_init 185 = .ok (.bipush 24, 2) := by decide +kernel
theorem dX8_init_187 : decode cX8_init 187 = .ok (.newarray .long, 2) := by decide +kernel
theorem dX8_init_189 : decode cX8_init 189 = .ok (.putfield 155, 3) := by decide +kernel
theorem dX8_init_192 : decode cX8_init 192 = .ok (.aload_n 0, 1) := by decide +kernel
theorem dX8_init_193 : decode cX8_init 193 = .ok (.bipush 24, 2) := by decide +kernel
theorem dX8_init_195 : decode cX8_init 195 = .ok (.newarray .boolean, 2) := by decide +kernel
theorem dX8_init_197 : decode cX8_init 197 = .ok (.putfield 158, 3) := by decide +kernel
theorem dX8_init_200 : decode cX8_init 200 = .ok (.aload_n 0, 1) := by decide +kernel
theorem dX8_init_201 : decode cX8_init 201 = .ok (.bipush 60, 2) := by decide +kernel
theorem dX8_init_203 : decode cX8_init 203 = .ok (.newarray .int, 2) := by decide +kernel
theorem dX8_init_205 : decode cX8_init 205 = .ok (.putfield 161, 3) := by decide +kernel
theorem dX8_init_208 : decode cX8_init 208 = .ok (.aload_n 0, 1) := by decide +kernel
theorem dX8_init_209 : decode cX8_init 209 = .ok (.bipush 60, 2) := by decide +kernel
theorem dX8_init_211 : decode cX8_init 211 = .ok (.newarray .int, 2) := by decide +kernel
theorem dX8_init_213 : decode cX8_init 213 = .ok (.putfield 164, 3) := by decide +kernel
theorem dX8_init_216 : decode cX8_init 216 = .ok (.aload_n 0, 1) := by decide +kernel
theorem dX8_init_217 : decode cX8_init 217 = .ok (.bipush 60, 2) := by decide +kernel
theorem dX8_init_219 : decode cX8_init 219 = .ok (.newarray .int, 2) := by decide +kernel
theorem dX8_init_221 : decode cX8_init 221 = .ok (.putfield 167, 3) := by decide +kernel
theorem dX8_init_224 : decode cX8_init 224 = .ok (.aload_n 0, 1) := by decide +kernel
theorem dX8_init_225 : decode cX8_init 225 = .ok (.sipush 14400, 3) := by decide +kernel
theorem dX8_init_228 : decode cX8_init 228 = .ok (.newarray .long, 2) := by decide +kernel
theorem dX8_init_230 : decode cX8_init 230 = .ok (.putfield 170, 3) := by decide +kernel
theorem dX8_init_233 : decode cX8_init 233 = .ok (.iconst 0, 1) := by decide +kernel
theorem dX8_init_234 : decode cX8_init 234 = .ok (.istore_n 1, 1) := by decide +kernel
theorem dX8_init_235 : decode cX8_init 235 = .ok (.iload_n 1, 1) := by decide +kernel
theorem dX8_init_236 : decode cX8_init 236 = .ok (.bipush 24, 2) := by decide +kernel
theorem dX8_init_238 : decode cX8_init 238 = .ok (.if_icmp .ge 45, 3) := by decide +kernel
theorem dX8_init_241 : decode cX8_init 241 = .ok (.aload_n 0, 1) := by decide +kernel
theorem dX8_init_242 : decode cX8_init 242 = .ok (.getfield 131, 3) := by decide +kernel
theorem dX8_init_245 : decode cX8_init 245 = .ok (.bipush 18, 2) := by decide +kernel
theorem dX8_init_247 : decode cX8_init 247 = .ok (.iload_n 1, 1) := by decide +kernel
theorem dX8_init_248 : decode cX8_init 248 = .ok (.imul, 1) := by decide +kernel
theorem dX8_init_249 : decode cX8_init 249 = .ok (.iconst 1, 1) := by decide +kernel
theorem dX8_init_250 : decode cX8_init 250 = .ok (.iadd, 1) := by decide +kernel
theorem dX8_init_251 : decode cX8_init 251 = .ok (.lconst 1, 1) := by decide +kernel
theorem dX8_init_252 : decode cX8_init 252 = .ok (.lastore, 1) := by decide +kernel
theorem dX8_init_253 : decode cX8_init 253 = .ok (.aload_n 0, 1) := by decide +kernel
theorem dX8_init_254 : decode cX8_init 254 = .ok (.getfield 131, 3) := by decide +kernel
theorem dX8_init_257 : decode cX8_init 257 = .ok (.bipush 18, 2) := by decide +kernel
theorem dX8_init_259 : decode cX8_init 259 = .ok (.iload_n 1, 1) := by decide +kernel
theorem dX8_init_260 : decode cX8_init 260 = .ok (.imul, 1) := by decide +kernel
theorem dX8_init_261 : decode cX8_init 261 = .ok (.iconst 2, 1) := by decide +kernel
theorem dX8_init_262 : decode cX8_init 262 = .ok (.iadd, 1) := by decide +kernel
theorem dX8_init_263 : decode cX8_init 263 = .ok (.lconst 1, 1) := by decide +kernel
theorem dX8_init_264 : decode cX8_init 264 = .ok (.lastore, 1) := by decide +kernel
theorem dX8_init_265 : decode cX8_init 265 = .ok (.aload_n 0, 1) := by decide +kernel
theorem dX8_init_266 : decode cX8_init 266 = .ok (.getfield 131, 3) := by decide +kernel
theorem dX8_init_269 : decode cX8_init 269 = .ok (.bipush 18, 2) := by decide +kernel
theorem dX8_init_271 : decode cX8_init 271 = .ok (.iload_n 1, 1) := by decide +kernel
theorem dX8_init_272 : decode cX8_init 272 = .ok (.imul, 1) := by decide +kernel
theorem dX8_init_273 : decode cX8_init 273 = .ok (.iconst 3, 1) := by decide +kernel
theorem dX8_init_274 : decode cX8_init 274 = .ok (.iadd, 1) := by decide +kernel
theorem dX8_init_275 : decode cX8_init 275 = .ok (.lconst 1, 1) := by decide +kernel
theorem dX8_init_276 : decode cX8_init 276 = .ok (.lastore, 1) := by decide +kernel
theorem dX8_init_277 : decode cX8_init 277 = .ok (.iinc 1 1, 3) := by decide +kernel
theorem dX8_init_280 : decode cX8_init 280 = .ok (.goto (-45), 3) := by decide +kernel
theorem dX8_init_283 : decode cX8_init 283 = .ok (.return_, 1) := by decide +kernel
theorem dX8_row_0 : decode cX8_row 0 = .ok (.bipush 18, 2) := by decide +kernel
theorem dX8_row_2 : decode cX8_row 2 = .ok (.iconst 4, 1) := by decide +kernel
theorem dX8_row_3 : decode cX8_row 3 = .ok (.iload_n 0, 1) := by decide +kernel
theorem dX8_row_4 : decode cX8_row 4 = .ok (.imul, 1) := by decide +kernel
theorem dX8_row_5 : decode cX8_row 5 = .ok (.iload_n 1, 1) := by decide +kernel
theorem dX8_row_6 : decode cX8_row 6 = .ok (.iadd, 1) := by decide +kernel
theorem dX8_row_7 : decode cX8_row 7 = .ok (.imul, 1) := by decide +kernel
theorem dX8_row_8 : decode cX8_row 8 = .ok (.ireturn, 1) := by decide +kernel
theorem dX8_mode_0 : decode cX8_mode 0 = .ok (.iload_n 1, 1) := by decide +kernel
theorem dX8_mode_1 : decode cX8_mode 1 = .ok (.invokestatic 7, 3) := by decide +kernel
theorem dX8_mode_4 : decode cX8_mode 4 = .ok (.ifCond .eq 32, 3) := by decide +kernel
theorem dX8_mode_7 : decode cX8_mode 7 = .ok (.iload_n 2, 1) := by decide +kernel
theorem dX8_mode_8 : decode cX8_mode 8 = .ok (.invokestatic 28, 3) := by decide +kernel
theorem dX8_mode_11 : decode cX8_mode 11 = .ok (.ifCond .eq 25, 3) := by decide +kernel
theorem dX8_mode_14 : decode cX8_mode 14 = .ok (.iload_n 3, 1) := by decide +kernel
theorem dX8_mode_15 : decode cX8_mode 15 = .ok (.ifCond .lt 21, 3) := by decide +kernel
theorem dX8_mode_18 : decode cX8_mode 18 = .ok (.iload_n 3, 1) := by decide +kernel
theorem dX8_mode_19 : decode cX8_mode 19 = .ok (.iconst 2, 1) := by decide +kernel
theorem dX8_mode_20 : decode cX8_mode 20 = .ok (.if_icmp .gt 16, 3) := by decide +kernel
theorem dX8_mode_23 : decode cX8_mode 23 = .ok (.iload 4, 2) := by decide +kernel
theorem dX8_mode_25 : decode cX8_mode 25 = .ok (.iconst 1, 1) := by decide +kernel
theorem dX8_mode_26 : decode cX8_mode 26 = .ok (.if_icmp .lt 10, 3) := by decide +kernel
theorem dX8_mode_29 : decode cX8_mode 29 = .ok (.iload 4, 2) := by decide +kernel
theorem dX8_mode_31 : decode cX8_mode 31 = .ok (.ldc 173, 2) := by decide +kernel
theorem dX8_mode_33 : decode cX8_mode 33 = .ok (.if_icmp .le 6, 3) := by decide +kernel
theorem dX8_mode_36 : decode cX8_mode 36 = .ok (.bipush (-2), 2) := by decide +kernel
theorem dX8_mode_38 : decode cX8_mode 38 = .ok (.ireturn, 1) := by decide +kernel
theorem dX8_mode_39 : decode cX8_mode 39 = .ok (.aload_n 0, 1) := by decide +kernel
theorem dX8_mode_40 : decode cX8_mode 40 = .ok (.getfield 131, 3) := by decide +kernel
theorem dX8_mode_43 : decode cX8_mode 43 = .ok (.iload_n 1, 1) := by decide +kernel
theorem dX8_mode_44 : decode cX8_mode 44 = .ok (.iload_n 2, 1) := by decide +kernel
theorem dX8_mode_45 : decode cX8_mode 45 = .ok (.invokestatic 174, 3) := by decide +kernel
theorem dX8_mode_48 : decode cX8_mode 48 = .ok (.iload_n 3, 1) := by decide +kernel
theorem dX8_mode_49 : decode cX8_mode 49 = .ok (.i2l, 1) := by decide +kernel
theorem dX8_mode_50 : decode cX8_mode 50 = .ok (.lastore, 1) := by decide +kernel
theorem dX8_mode_51 : decode cX8_mode 51 = .ok (.aload_n 0, 1) := by decide +kernel
theorem dX8_mode_52 : decode cX8_mode 52 = .ok (.getfield 131, 3) := by decide +kernel
theorem dX8_mode_55 : decode cX8_mode 55 = .ok (.iload_n 1, 1) := by decide +kernel
theorem dX8_mode_56 : decode cX8_mode 56 = .ok (.iload_n 2, 1) := by decide +kernel
theorem dX8_mode_57 : decode cX8_mode 57 = .ok (.invokestatic 174, 3) := by decide +kernel
theorem dX8_mode_60 : decode cX8_mode 60 = .ok (.iconst 1, 1) := by decide +kernel
theorem dX8_mode_61 : decode cX8_mode 61 = .ok (.iadd, 1) := by decide +kernel
theorem dX8_mode_62 : decode cX8_mode 62 = .ok (.iload 4, 2) := by decide +kernel
theorem dX8_mode_64 : decode cX8_mode 64 = .ok (.i2l, 1) := by decide +kernel
theorem dX8_mode_65 : decode cX8_mode 65 = .ok (.lastore, 1) := by decide +kernel
theorem dX8_mode_66 : decode cX8_mode 66 = .ok (.iconst 0, 1) := by decide +kernel
theorem dX8_mode_67 : decode cX8_mode 67 = .ok (.ireturn, 1) := by decide +kernel
theorem dX8_tier_0 : decode cX8_tier 0 = .ok (.iload_n 1, 1) := by decide +kernel
theorem dX8_tier_1 : decode cX8_tier 1 = .ok (.invokestatic 7, 3) := by decide +kernel
theorem dX8_tier_4 : decode cX8_tier 4 = .ok (.ifCond .eq 54, 3) := by decide +kernel
theorem dX8_tier_7 : decode cX8_tier 7 = .ok (.iload_n 2, 1) := by decide +kernel
theorem dX8_tier_8 : decode cX8_tier 8 = .ok (.invokestatic 28, 3) := by decide +kernel
theorem dX8_tier_11 : decode cX8_tier 11 = .ok (.ifCond .eq 47, 3) := by decide +kernel
theorem dX8_tier_14 : decode cX8_tier 14 = .ok (.lload 4, 2) := by decide +kernel
theorem dX8_tier_16 : decode cX8_tier 16 = .ok (.lconst 1, 1) := by decide +kernel
theorem dX8_tier_17 : decode cX8_tier 17 = .ok (.lcmp, 1) := by decide +kernel
theorem dX8_tier_18 : decode cX8_tier 18 = .ok (.ifCond .lt 40, 3) := by decide +kernel
theorem dX8_tier_21 : decode cX8_tier 21 = .ok (.lload 4, 2) := by decide +kernel
theorem dX8_tier_23 : decode cX8_tier 23 = .ok (.ldc2_w 177, 3) := by decide +kernel
theorem dX8_tier_26 : decode cX8_tier 26 = .ok (.lcmp, 1) := by decide +kernel
theorem dX8_tier_27 : decode cX8_tier 27 = .ok (.ifCond .gt 31, 3) := by decide +kernel
theorem dX8_tier_30 : decode cX8_tier 30 = .ok (.iload 6, 2) := by decide +kernel
theorem dX8_tier_32 : decode cX8_tier 32 = .ok (.ifCond .lt 26, 3) := by decide +kernel
theorem dX8_tier_35 : decode cX8_tier 35 = .ok (.iload 6, 2) := by decide +kernel
theorem dX8_tier_37 : decode cX8_tier 37 = .ok (.ldc 63, 2) := by decide +kernel
theorem dX8_tier_39 : decode cX8_tier 39 = .ok (.if_icmp .gt 19, 3) := by decide +kernel
theorem dX8_tier_42 : decode cX8_tier 42 = .ok (.iload 7, 2) := by decide +kernel
theorem dX8_tier_44 : decode cX8_tier 44 = .ok (.ifCond .lt 14, 3) := by decide +kernel
theorem dX8_tier_47 : decode cX8_tier 47 = .ok (.iload 7, 2) := by decide +kernel
theorem dX8_tier_49 : decode cX8_tier 49 = .ok (.ldc 31, 2) := by decide +kernel
theorem dX8_tier_51 : decode cX8_tier 51 = .ok (.if_icmp .gt 7, 3) := by decide +kernel
theorem dX8_tier_54 : decode cX8_tier 54 = .ok (.iconst 1, 1) := by decide +kernel
theorem dX8_tier_55 : decode cX8_tier 55 = .ok (.goto 4, 3) := by decide +kernel
theorem dX8_tier_58 : decode cX8_tier 58 = .ok (.iconst 0, 1) := by decide +kernel
theorem dX8_tier_59 : decode cX8_tier 59 = .ok (.istore 8, 2) := by decide +kernel
theorem dX8_tier_61 : decode cX8_tier 61 = .ok (.iload 8, 2) := by decide +kernel
theorem dX8_tier_63 : decode cX8_tier 63 = .ok (.ifCond .ne 6, 3) := by decide +kernel
theorem dX8_tier_66 : decode cX8_tier 66 = .ok (.bipush (-2), 2) := by decide +kernel
theorem dX8_tier_68 : decode cX8_tier 68 = .ok (.ireturn, 1) := by decide +kernel
theorem dX8_tier_69 : decode cX8_tier 69 = .ok (.iload_n 1, 1) := by decide +kernel
theorem dX8_tier_70 : decode cX8_tier 70 = .ok (.iload_n 2, 1) := by decide +kernel
theorem dX8_tier_71 : decode cX8_tier 71 = .ok (.invokestatic 174, 3) := by decide +kernel
theorem dX8_tier_74 : decode cX8_tier 74 = .ok (.istore 9, 2) := by decide +kernel
theorem dX8_tier_76 : decode cX8_tier 76 = .ok (.aload_n 0, 1) := by decide +kernel
theorem dX8_tier_77 : decode cX8_tier 77 = .ok (.getfield 131, 3) := by decide +kernel
theorem dX8_tier_80 : decode cX8_tier 80 = .ok (.iload 9, 2) := by decide +kernel
theorem dX8_tier_82 : decode cX8_tier 82 = .ok (.iconst 2, 1) := by decide +kernel
theorem dX8_tier_83 : decode cX8_tier 83 = .ok (.iadd, 1) := by decide +kernel
theorem dX8_tier_84 : decode cX8_tier 84 = .ok (.laload, 1) := by decide +kernel
theorem dX8_tier_85 : decode cX8_tier 85 = .ok (.l2i, 1) := by decide +kernel
theorem dX8_tier_86 : decode cX8_tier 86 = .ok (.istore 10, 2) := by decide +kernel
theorem dX8_tier_88 : decode cX8_tier 88 = .ok (.iload_n 3, 1) := by decide +kernel
theorem dX8_tier_89 : decode cX8_tier 89 = .ok (.ifCond .lt 14, 3) := by decide +kernel
theorem dX8_tier_92 : decode cX8_tier 92 = .ok (.iload_n 3, 1) := by decide +kernel
theorem dX8_tier_93 : decode cX8_tier 93 = .ok (.iload 10, 2) := by decide +kernel
theorem dX8_tier_95 : decode cX8_tier 95 = .ok (.if_icmp .gt 8, 3) := by decide +kernel
theorem dX8_tier_98 : decode cX8_tier 98 = .ok (.iload_n 3, 1) := by decide +kernel
theorem dX8_tier_99 : decode cX8_tier 99 = .ok (.iconst 4, 1) := by decide +kernel
theorem dX8_tier_100 : decode cX8_tier 100 = .ok (.if_icmp .le 6, 3) := by decide +kernel
theorem dX8_tier_103 : decode cX8_tier 103 = .ok (.bipush (-2), 2) := by decide +kernel
theorem dX8_tier_105 : decode cX8_tier 105 = .ok (.ireturn, 1) := by decide +kernel
theorem dX8_tier_106 : decode cX8_tier 106 = .ok (.iload_n 3, 1) := by decide +kernel
theorem dX8_tier_107 : decode cX8_tier 107 = .ok (.iload 10, 2) := by decide +kernel
theorem dX8_tier_109 : decode cX8_tier 109 = .ok (.if_icmp .ne 10, 3) := by decide +kernel
theorem dX8_tier_112 : decode cX8_tier 112 = .ok (.iload 10, 2) := by decide +kernel
theorem dX8_tier_114 : decode cX8_tier 114 = .ok (.iconst 1, 1) := by decide +kernel
theorem dX8_tier_115 : decode cX8_tier 115 = .ok (.iadd, 1) := by decide +kernel
theorem dX8_tier_116 : decode cX8_tier 116 = .ok (.goto 5, 3) := by decide +kernel
theorem dX8_tier_119 : decode cX8_tier 119 = .ok (.iload 10, 2) := by decide +kernel
theorem dX8_tier_121 : decode cX8_tier 121 = .ok (.istore 11, 2) := by decide +kernel
theorem dX8_tier_123 : decode cX8_tier 123 = .ok (.iconst 1, 1) := by decide +kernel
theorem dX8_tier_124 : decode cX8_tier 124 = .ok (.istore 12, 2) := by decide +kernel
theorem dX8_tier_126 : decode cX8_tier 126 = .ok (.iload 12, 2) := by decide +kernel
theorem dX8_tier_128 : decode cX8_tier 128 = .ok (.iload 11, 2) := by decide +kernel
theorem dX8_tier_130 : decode cX8_tier 130 = .ok (.iconst 1, 1) := by decide +kernel
theorem dX8_tier_131 : decode cX8_tier 131 = .ok (.isub, 1) := by decide +kernel
theorem dX8_tier_132 : decode cX8_tier 132 = .ok (.if_icmp .ge 74, 3) := by decide +kernel
theorem dX8_tier_135 : decode cX8_tier 135 = .ok (.iload 12, 2) := by decide +kernel
theorem dX8_tier_137 : decode cX8_tier 137 = .ok (.iconst 1, 1) := by decide +kernel
theorem dX8_tier_138 : decode cX8_tier 138 = .ok (.isub, 1) := by decide +kernel
theorem dX8_tier_139 : decode cX8_tier 139 = .ok (.iload_n 3, 1) := by decide +kernel
theorem dX8_tier_140 : decode cX8_tier 140 = .ok (.if_icmp .ne 8, 3) := by decide +kernel
theorem dX8_tier_143 : decode cX8_tier 143 = .ok (.lload 4, 2) := by decide +kernel
theorem dX8_tier_145 : decode cX8_tier 145 = .ok (.goto 15, 3) := by decide +kernel
theorem dX8_tier_148 : decode cX8_tier 148 = .ok (.aload_n 0, 1) := by decide +kernel
theorem dX8_tier_149 : decode cX8_tier 149 = .ok (.getfield 131, 3) := by decide +kernel
theorem dX8_tier_152 : decode cX8_tier 152 = .ok (.iload 9, 2) := by decide +kernel
theorem dX8_tier_154 : decode cX8_tier 154 = .ok (.iconst 3, 1) := by decide +kernel
theorem dX8_tier_155 : decode cX8_tier 155 = .ok (.iload 12, 2) := by decide +kernel
theorem dX8_tier_157 : decode cX8_tier 157 = .ok (.imul, 1) := by decide +kernel
theorem dX8_tier_158 : decode cX8_tier 158 = .ok (.iadd, 1) := by decide +kernel
theorem dX8_tier_159 : decode cX8_tier 159 = .ok (.laload, 1) := by decide +kernel
theorem dX8_tier_160 : decode cX8_tier 160 = .ok (.lstore 13, 2) := by decide +kernel
theorem dX8_tier_162 : decode cX8_tier 162 = .ok (.iload 12, 2) := by decide +kernel
theorem dX8_tier_164 : decode cX8_tier 164 = .ok (.iload_n 3, 1) := by decide +kernel
theorem dX8_tier_165 : decode cX8_tier 165 = .ok (.if_icmp .ne 8, 3) := by decide +kernel
theorem dX8_tier_168 : decode cX8_tier 168 = .ok (.lload 4, 2) := by decide +kernel
theorem dX8_tier_170 : decode cX8_tier 170 = .ok (.goto 17, 3) := by decide +kernel
theorem dX8_tier_173 : decode cX8_tier 173 = .ok (.aload_n 0, 1) := by decide +kernel
theorem dX8_tier_174 : decode cX8_tier 174 = .ok (.getfield 131, 3) := by decide +kernel
theorem dX8_tier_177 : decode cX8_tier 177 = .ok (.iload 9, 2) := by decide +kernel
theorem dX8_tier_179 : decode cX8_tier 179 = .ok (.iconst 3, 1) := by decide +kernel
theorem dX8_tier_180 : decode cX8_tier 180 = .ok (.iload 12, 2) := by decide +kernel
theorem dX8_tier_182 : decode cX8_tier 182 = .ok (.imul, 1) := by decide +kernel
theorem dX8_tier_183 : decode cX8_tier 183 = .ok (.iadd, 1) := by decide +kernel
theorem dX8_tier_184 : decode cX8_tier 184 = .ok (.iconst 3, 1) := by decide +kernel
theorem dX8_tier_185 : decode cX8_tier 185 = .ok (.iadd, 1) := by decide +kernel
theorem dX8_tier_186 : decode cX8_tier 186 = .ok (.laload, 1) := by decide +kernel
theorem dX8_tier_187 : decode cX8_tier 187 = .ok (.lstore 15, 2) := by decide +kernel
theorem dX8_tier_189 : decode cX8_tier 189 = .ok (.lload 15, 2) := by decide +kernel
theorem dX8_tier_191 : decode cX8_tier 191 = .ok (.lload 13, 2) := by decide +kernel
theorem dX8_tier_193 : decode cX8_tier 193 = .ok (.lcmp, 1) := by decide +kernel
theorem dX8_tier_194 : decode cX8_tier 194 = .ok (.ifCond .gt 6, 3) := by decide +kernel
theorem dX8_tier_197 : decode cX8_tier 197 = .ok (.bipush (-2), 2) := by decide +kernel
theorem dX8_tier_199 : decode cX8_tier 199 = .ok (.ireturn, 1) := by decide +kernel
theorem dX8_tier_200 : decode cX8_tier 200 = .ok (.iinc 12 1, 3) := by decide +kernel
theorem dX8_tier_203 : decode cX8_tier 203 = .ok (.goto (-77), 3) := by decide +kernel
theorem dX8_tier_206 : decode cX8_tier 206 = .ok (.aload_n 0, 1) := by decide +kernel
theorem dX8_tier_207 : decode cX8_tier 207 = .ok (.getfield 131, 3) := by decide +kernel
theorem dX8_tier_210 : decode cX8_tier 210 = .ok (.iload 9, 2) := by decide +kernel
theorem dX8_tier_212 : decode cX8_tier 212 = .ok (.iconst 2, 1) := by decide +kernel
theorem dX8_tier_213 : decode cX8_tier 213 = .ok (.iadd, 1) := by decide +kernel
theorem dX8_tier_214 : decode cX8_tier 214 = .ok (.iload 11, 2) := by decide +kernel
theorem dX8_tier_216 : decode cX8_tier 216 = .ok (.i2l, 1) := by decide +kernel
theorem dX8_tier_217 : decode cX8_tier 217 = .ok (.lastore, 1) := by decide +kernel
theorem dX8_tier_218 : decode cX8_tier 218 = .ok (.aload_n 0, 1) := by decide +kernel
theorem dX8_tier_219 : decode cX8_tier 219 = .ok (.getfield 131, 3) := by decide +kernel
theorem dX8_tier_222 : decode cX8_tier 222 = .ok (.iload 9, 2) := by decide +kernel
theorem dX8_tier_224 : decode cX8_tier 224 = .ok (.iconst 3, 1) := by decide +kernel
theorem dX8_tier_225 : decode cX8_tier 225 = .ok (.iadd, 1) := by decide +kernel
theorem dX8_tier_226 : decode cX8_tier 226 = .ok (.iconst 3, 1) := by decide +kernel
theorem dX8_tier_227 : decode cX8_tier 227 = .ok (.iload_n 3, 1) := by decide +kernel
theorem dX8_tier_228 : decode cX8_tier 228 = .ok (.imul, 1) := by decide +kernel
theorem dX8_tier_229 : decode cX8_tier 229 = .ok (.iadd, 1) := by decide +kernel
theorem dX8_tier_230 : decode cX8_tier 230 = .ok (.lload 4, 2) := by decide +kernel
theorem dX8_tier_232 : decode cX8_tier 232 = .ok (.lastore, 1) := by decide +kernel
theorem dX8_tier_233 : decode cX8_tier 233 = .ok (.aload_n 0, 1) := by decide +kernel
theorem dX8_tier_234 : decode cX8_tier 234 = .ok (.getfield 131, 3) := by decide +kernel
theorem dX8_tier_237 : decode cX8_tier 237 = .ok (.iload 9, 2) := by decide +kernel
theorem dX8_tier_239 : decode cX8_tier 239 = .ok (.iconst 4, 1) := by decide +kernel
theorem dX8_tier_240 : decode cX8_tier 240 = .ok (.iadd, 1) := by decide +kernel
theorem dX8_tier_241 : decode cX8_tier 241 = .ok (.iconst 3, 1) := by decide +kernel
theorem dX8_tier_242 : decode cX8_tier 242 = .ok (.iload_n 3, 1) := by decide +kernel
theorem dX8_tier_243 : decode cX8_tier 243 = .ok (.imul, 1) := by decide +kernel
theorem dX8_tier_244 : decode cX8_tier 244 = .ok (.iadd, 1) := by decide +kernel
theorem dX8_tier_245 : decode cX8_tier 245 = .ok (.iload 6, 2) := by decide +kernel
theorem dX8_tier_247 : decode cX8_tier 247 = .ok (.i2l, 1) := by decide +kernel
theorem dX8_tier_248 : decode cX8_tier 248 = .ok (.lastore, 1) := by decide +kernel
theorem dX8_tier_249 : decode cX8_tier 249 = .ok (.aload_n 0, 1) := by decide +kernel
theorem dX8_tier_250 : decode cX8_tier 250 = .ok (.getfield 131, 3) := by decide +kernel
theorem dX8_tier_253 : decode cX8_tier 253 = .ok (.iload 9, 2) := by decide +kernel
theorem dX8_tier_255 : decode cX8_tier 255 = .ok (.iconst 5, 1) := by decide +kernel
theorem dX8_tier_256 : decode cX8_tier 256 = .ok (.iadd, 1) := by decide +kernel
theorem dX8_tier_257 : decode cX8_tier 257 = .ok (.iconst 3, 1) := by decide +kernel
theorem dX8_tier_258 : decode cX8_tier 258 = .ok (.iload_n 3, 1) := by decide +kernel
theorem dX8_tier_259 : decode cX8_tier 259 = .ok (.imul, 1) := by decide +kernel
theorem dX8_tier_260 : decode cX8_tier 260 = .ok (.iadd, 1) := by decide +kernel
theorem dX8_tier_261 : decode cX8_tier 261 = .ok (.iload 7, 2) := by decide +kernel
theorem dX8_tier_263 : decode cX8_tier 263 = .ok (.i2l, 1) := by decide +kernel
theorem dX8_tier_264 : decode cX8_tier 264 = .ok (.lastore, 1) := by decide +kernel
theorem dX8_tier_265 : decode cX8_tier 265 = .ok (.iconst 0, 1) := by decide +kernel
theorem dX8_tier_266 : decode cX8_tier 266 = .ok (.ireturn, 1) := by decide +kernel
theorem dX8_tiers_0 : decode cX8_tiers 0 = .ok (.iload_n 1, 1) := by decide +kernel
theorem dX8_tiers_1 : decode cX8_tiers 1 = .ok (.invokestatic 7, 3) := by decide +kernel
theorem dX8_tiers_4 : decode cX8_tiers 4 = .ok (.ifCond .eq 20, 3) := by decide +kernel
theorem dX8_tiers_7 : decode cX8_tiers 7 = .ok (.iload_n 2, 1) := by decide +kernel
theorem dX8_tiers_8 : decode cX8_tiers 8 = .ok (.invokestatic 28, 3) := by decide +kernel
theorem dX8_tiers_11 : decode cX8_tiers 11 = .ok (.ifCond .eq 13, 3) := by decide +kernel
theorem dX8_tiers_14 : decode cX8_tiers 14 = .ok (.iload_n 3, 1) := by decide +kernel
theorem dX8_tiers_15 : decode cX8_tiers 15 = .ok (.iconst 1, 1) := by decide +kernel
theorem dX8_tiers_16 : decode cX8_tiers 16 = .ok (.if_icmp .lt 8, 3) := by decide +kernel
theorem dX8_tiers_19 : decode cX8_tiers 19 = .ok (.iload_n 3, 1) := by decide +kernel
theorem dX8_tiers_20 : decode cX8_tiers 20 = .ok (.iconst 5, 1) := by decide +kernel
theorem dX8_tiers_21 : decode cX8_tiers 21 = .ok (.if_icmp .le 6, 3) := by decide +kernel
theorem dX8_tiers_24 : decode cX8_tiers 24 = .ok (.bipush (-2), 2) := by decide +kernel
theorem dX8_tiers_26 : decode cX8_tiers 26 = .ok (.ireturn, 1) := by decide +kernel
theorem dX8_tiers_27 : decode cX8_tiers 27 = .ok (.iload_n 1, 1) := by decide +kernel
theorem dX8_tiers_28 : decode cX8_tiers 28 = .ok (.iload_n 2, 1) := by decide +kernel
theorem dX8_tiers_29 : decode cX8_tiers 29 = .ok (.invokestatic 174, 3) := by decide +kernel
theorem dX8_tiers_32 : decode cX8_tiers 32 = .ok (.iconst 2, 1) := by decide +kernel
theorem dX8_tiers_33 : decode cX8_tiers 33 = .ok (.iadd, 1) := by decide +kernel
theorem dX8_tiers_34 : decode cX8_tiers 34 = .ok (.istore 4, 2) := by decide +kernel
theorem dX8_tiers_36 : decode cX8_tiers 36 = .ok (.aload_n 0, 1) := by decide +kernel
theorem dX8_tiers_37 : decode cX8_tiers 37 = .ok (.getfield 131, 3) := by decide +kernel
theorem dX8_tiers_40 : decode cX8_tiers 40 = .ok (.iload 4, 2) := by decide +kernel
theorem dX8_tiers_42 : decode cX8_tiers 42 = .ok (.iload_n 3, 1) := by decide +kernel
theorem dX8_tiers_43 : decode cX8_tiers 43 = .ok (.i2l, 1) := by decide +kernel
theorem dX8_tiers_44 : decode cX8_tiers 44 = .ok (.aload_n 0, 1) := by decide +kernel
theorem dX8_tiers_45 : decode cX8_tiers 45 = .ok (.getfield 131, 3) := by decide +kernel
theorem dX8_tiers_48 : decode cX8_tiers 48 = .ok (.iload 4, 2) := by decide +kernel
theorem dX8_tiers_50 : decode cX8_tiers 50 = .ok (.laload, 1) := by decide +kernel
theorem dX8_tiers_51 : decode cX8_tiers 51 = .ok (.invokestatic 109, 3) := by decide +kernel
theorem dX8_tiers_54 : decode cX8_tiers 54 = .ok (.lastore, 1) := by decide +kernel
theorem dX8_tiers_55 : decode cX8_tiers 55 = .ok (.aload_n 0, 1) := by decide +kernel
theorem dX8_tiers_56 : decode cX8_tiers 56 = .ok (.getfield 131, 3) := by decide +kernel
theorem dX8_tiers_59 : decode cX8_tiers 59 = .ok (.iload 4, 2) := by decide +kernel
theorem dX8_tiers_61 : decode cX8_tiers 61 = .ok (.laload, 1) := by decide +kernel
theorem dX8_tiers_62 : decode cX8_tiers 62 = .ok (.l2i, 1) := by decide +kernel
theorem dX8_tiers_63 : decode cX8_tiers 63 = .ok (.ireturn, 1) := by decide +kernel
theorem dX8_cost_0 : decode cX8_cost 0 = .ok (.iload_n 1, 1) := by decide +kernel
theorem dX8_cost_1 : decode cX8_cost 1 = .ok (.invokestatic 7, 3) := by decide +kernel
theorem dX8_cost_4 : decode cX8_cost 4 = .ok (.ifCond .eq 37, 3) := by decide +kernel
theorem dX8_cost_7 : decode cX8_cost 7 = .ok (.iload_n 2, 1) := by decide +kernel
theorem dX8_cost_8 : decode cX8_cost 8 = .ok (.invokestatic 28, 3) := by decide +kernel
theorem dX8_cost_11 : decode cX8_cost 11 = .ok (.ifCond .eq 30, 3) := by decide +kernel
theorem dX8_cost_14 : decode cX8_cost 14 = .ok (.lload_n 3, 1) := by decide +kernel
theorem dX8_cost_15 : decode cX8_cost 15 = .ok (.lconst 0, 1) := by decide +kernel
theorem dX8_cost_16 : decode cX8_cost 16 = .ok (.lcmp, 1) := by decide +kernel
theorem dX8_cost_17 : decode cX8_cost 17 = .ok (.ifCond .lt 24, 3) := by decide +kernel
theorem dX8_cost_20 : decode cX8_cost 20 = .ok (.lload_n 3, 1) := by decide +kernel
theorem dX8_cost_21 : decode cX8_cost 21 = .ok (.ldc2_w 177, 3) := by decide +kernel
theorem dX8_cost_24 : decode cX8_cost 24 = .ok (.lcmp, 1) := by decide +kernel
theorem dX8_cost_25 : decode cX8_cost 25 = .ok (.ifCond .gt 16, 3) := by decide +kernel
theorem dX8_cost_28 : decode cX8_cost 28 = .ok (.aload_n 0, 1) := by decide +kernel
theorem dX8_cost_29 : decode cX8_cost 29 = .ok (.iload_n 1, 1) := by decide +kernel
theorem dX8_cost_30 : decode cX8_cost 30 = .ok (.iload_n 2, 1) := by decide +kernel
theorem dX8_cost_31 : decode cX8_cost 31 = .ok (.invokestatic 174, 3) := by decide +kernel
theorem dX8_cost_34 : decode cX8_cost 34 = .ok (.lload_n 3, 1) := by decide +kernel
theorem dX8_cost_35 : decode cX8_cost 35 = .ok (.invokevirtual 179, 3) := by decide +kernel
theorem dX8_cost_38 : decode cX8_cost 38 = .ok (.goto 6, 3) := by decide +kernel
theorem dX8_cost_41 : decode cX8_cost 41 = .ok (.ldc2_w 75, 3) := by decide +kernel
theorem dX8_cost_44 : decode cX8_cost 44 = .ok (.lreturn, 1) := by decide +kernel
theorem dX8_costOf_0 : decode cX8_costOf 0 = .ok (.lconst 0, 1) := by decide +kernel
theorem dX8_costOf_1 : decode cX8_costOf 1 = .ok (.lstore 4, 2) := by decide +kernel
theorem dX8_costOf_3 : decode cX8_costOf 3 = .ok (.lconst 0, 1) := by decide +kernel
theorem dX8_costOf_4 : decode cX8_costOf 4 = .ok (.lstore 6, 2) := by decide +kernel
theorem dX8_costOf_6 : decode cX8_costOf 6 = .ok (.aload_n 0, 1) := by decide +kernel
theorem dX8_costOf_7 : decode cX8_costOf 7 = .ok (.getfield 131, 3) := by decide +kernel
theorem dX8_costOf_10 : decode cX8_costOf 10 = .ok (.iload_n 1, 1) := by decide +kernel
theorem dX8_costOf_11 : decode cX8_costOf 11 = .ok (.iconst 2, 1) := by decide +kernel
theorem dX8_costOf_12 : decode cX8_costOf 12 = .ok (.iadd, 1) := by decide +kernel
theorem dX8_costOf_13 : decode cX8_costOf 13 = .ok (.laload, 1) := by decide +kernel
theorem dX8_costOf_14 : decode cX8_costOf 14 = .ok (.l2i, 1) := by decide +kernel
theorem dX8_costOf_15 : decode cX8_costOf 15 = .ok (.istore 8, 2) := by decide +kernel
theorem dX8_costOf_17 : decode cX8_costOf 17 = .ok (.iconst 0, 1) := by decide +kernel
theorem dX8_costOf_18 : decode cX8_costOf 18 = .ok (.istore 9, 2) := by decide +kernel
theorem dX8_costOf_20 : decode cX8_costOf 20 = .ok (.iload 9, 2) := by decide +kernel
theorem dX8_costOf_22 : decode cX8_costOf 22 = .ok (.iload 8, 2) := by decide +kernel
theorem dX8_costOf_24 : decode cX8_costOf 24 = .ok (.if_icmp .ge 161, 3) := by decide +kernel
theorem dX8_costOf_27 : decode cX8_costOf 27 = .ok (.lload 6, 2) := by decide +kernel
theorem dX8_costOf_29 : decode cX8_costOf 29 = .ok (.lload_n 2, 1) := by decide +kernel
theorem dX8_costOf_30 : decode cX8_costOf 30 = .ok (.lcmp, 1) := by decide +kernel
theorem dX8_costOf_31 : decode cX8_costOf 31 = .ok (.ifCond .ge 154, 3) := by decide +kernel
theorem dX8_costOf_34 : decode cX8_costOf 34 = .ok (.iload 9, 2) := by decide +kernel
theorem dX8_costOf_36 : decode cX8_costOf 36 = .ok (.iload 8, 2) := by decide +kernel
theorem dX8_costOf_38 : decode cX8_costOf 38 = .ok (.iconst 1, 1) := by decide +kernel
theorem dX8_costOf_39 : decode cX8_costOf 39 = .ok (.isub, 1) := by decide +kernel
theorem dX8_costOf_40 : decode cX8_costOf 40 = .ok (.if_icmp .ne 7, 3) := by decide +kernel
theorem dX8_costOf_43 : decode cX8_costOf 43 = .ok (.lload_n 2, 1) := by decide +kernel
theorem dX8_costOf_44 : decode cX8_costOf 44 = .ok (.goto 20, 3) := by decide +kernel
theorem dX8_costOf_47 : decode cX8_costOf 47 = .ok (.lload_n 2, 1) := by decide +kernel
theorem dX8_costOf_48 : decode cX8_costOf 48 = .ok (.aload_n 0, 1) := by decide +kernel
theorem dX8_costOf_49 : decode cX8_costOf 49 = .ok (.getfield 131, 3) := by decide +kernel
theorem dX8_costOf_52 : decode cX8_costOf 52 = .ok (.iload_n 1, 1) := by decide +kernel
theorem dX8_costOf_53 : decode cX8_costOf 53 = .ok (.iconst 3, 1) := by decide +kernel
theorem dX8_costOf_54 : decode cX8_costOf 54 = .ok (.iadd, 1) := by decide +kernel
theorem dX8_costOf_55 : decode cX8_costOf 55 = .ok (.iconst 3, 1) := by decide +kernel
theorem dX8_costOf_56 : decode cX8_costOf 56 = .ok (.iload 9, 2) := by decide +kernel
theorem dX8_costOf_58 : decode cX8_costOf 58 = .ok (.imul, 1) := by decide +kernel
theorem dX8_costOf_59 : decode cX8_costOf 59 = .ok (.iadd, 1) := by decide +kernel
theorem dX8_costOf_60 : decode cX8_costOf 60 = .ok (.laload, 1) := by decide +kernel
theorem dX8_costOf_61 : decode cX8_costOf 61 = .ok (.invokestatic 109, 3) := by decide +kernel
theorem dX8_costOf_64 : decode cX8_costOf 64 = .ok (.lstore 10, 2) := by decide +kernel
theorem dX8_costOf_66 : decode cX8_costOf 66 = .ok (.lload 10, 2) := by decide +kernel
theorem dX8_costOf_68 : decode cX8_costOf 68 = .ok (.lload 6, 2) := by decide +kernel
theorem dX8_costOf_70 : decode cX8_costOf 70 = .ok (.lsub, 1) := by decide +kernel
theorem dX8_costOf_71 : decode cX8_costOf 71 = .ok (.lstore 12, 2) := by decide +kernel
theorem dX8_costOf_73 : decode cX8_costOf 73 = .ok (.aload_n 0, 1) := by decide +kernel
theorem dX8_costOf_74 : decode cX8_costOf 74 = .ok (.getfield 131, 3) := by decide +kernel
theorem dX8_costOf_77 : decode cX8_costOf 77 = .ok (.iload_n 1, 1) := by decide +kernel
theorem dX8_costOf_78 : decode cX8_costOf 78 = .ok (.iconst 4, 1) := by decide +kernel
theorem dX8_costOf_79 : decode cX8_costOf 79 = .ok (.iadd, 1) := by decide +kernel
theorem dX8_costOf_80 : decode cX8_costOf 80 = .ok (.iconst 3, 1) := by decide +kernel
theorem dX8_costOf_81 : decode cX8_costOf 81 = .ok (.iload 9, 2) := by decide +kernel
theorem dX8_costOf_83 : decode cX8_costOf 83 = .ok (.imul, 1) := by decide +kernel
theorem dX8_costOf_84 : decode cX8_costOf 84 = .ok (.iadd, 1) := by decide +kernel
theorem dX8_costOf_85 : decode cX8_costOf 85 = .ok (.laload, 1) := by decide +kernel
theorem dX8_costOf_86 : decode cX8_costOf 86 = .ok (.lstore 14, 2) := by decide +kernel
theorem dX8_costOf_88 : decode cX8_costOf 88 = .ok (.aload_n 0, 1) := by decide +kernel
theorem dX8_costOf_89 : decode cX8_costOf 89 = .ok (.getfield 131, 3) := by decide +kernel
theorem dX8_costOf_92 : decode cX8_costOf 92 = .ok (.iload_n 1, 1) := by decide +kernel
theorem dX8_costOf_93 : decode cX8_costOf 93 = .ok (.iconst 5, 1) := by decide +kernel
theorem dX8_costOf_94 : decode cX8_costOf 94 = .ok (.iadd, 1) := by decide +kernel
theorem dX8_costOf_95 : decode cX8_costOf 95 = .ok (.iconst 3, 1) := by decide +kernel
theorem dX8_costOf_96 : decode cX8_costOf 96 = .ok (.iload 9, 2) := by decide +kernel
theorem dX8_costOf_98 : decode cX8_costOf 98 = .ok (.imul, 1) := by decide +kernel
theorem dX8_costOf_99 : decode cX8_costOf 99 = .ok (.iadd, 1) := by decide +kernel
theorem dX8_costOf_100 : decode cX8_costOf 100 = .ok (.laload, 1) := by decide +kernel
theorem dX8_costOf_101 : decode cX8_costOf 101 = .ok (.lstore 16, 2) := by decide +kernel
theorem dX8_costOf_103 : decode cX8_costOf 103 = .ok (.aload_n 0, 1) := by decide +kernel
theorem dX8_costOf_104 : decode cX8_costOf 104 = .ok (.getfield 131, 3) := by decide +kernel
theorem dX8_costOf_107 : decode cX8_costOf 107 = .ok (.iload_n 1, 1) := by decide +kernel
theorem dX8_costOf_108 : decode cX8_costOf 108 = .ok (.laload, 1) := by decide +kernel
theorem dX8_costOf_109 : decode cX8_costOf 109 = .ok (.lconst 1, 1) := by decide +kernel
theorem dX8_costOf_110 : decode cX8_costOf 110 = .ok (.lcmp, 1) := by decide +kernel
theorem dX8_costOf_111 : decode cX8_costOf 111 = .ok (.ifCond .ne 15, 3) := by decide +kernel
theorem dX8_costOf_114 : decode cX8_costOf 114 = .ok (.lload_n 2, 1) := by decide +kernel
theorem dX8_costOf_115 : decode cX8_costOf 115 = .ok (.lload 14, 2) := by decide +kernel
theorem dX8_costOf_117 : decode cX8_costOf 117 = .ok (.lmul, 1) := by decide +kernel
theorem dX8_costOf_118 : decode cX8_costOf 118 = .ok (.lload 16, 2) := by decide +kernel
theorem dX8_costOf_120 : decode cX8_costOf 120 = .ok (.ladd, 1) := by decide +kernel
theorem dX8_costOf_121 : decode cX8_costOf 121 = .ok (.lstore 4, 2) := by decide +kernel
theorem dX8_costOf_123 : decode cX8_costOf 123 = .ok (.goto 52, 3) := by decide +kernel
theorem dX8_costOf_126 : decode cX8_costOf 126 = .ok (.aload_n 0, 1) := by decide +kernel
theorem dX8_costOf_127 : decode cX8_costOf 127 = .ok (.getfield 131, 3) := by decide +kernel
theorem dX8_costOf_130 : decode cX8_costOf 130 = .ok (.iload_n 1, 1) := by decide +kernel
theorem dX8_costOf_131 : decode cX8_costOf 131 = .ok (.iconst 1, 1) := by decide +kernel
theorem dX8_costOf_132 : decode cX8_costOf 132 = .ok (.iadd, 1) := by decide +kernel
theorem dX8_costOf_133 : decode cX8_costOf 133 = .ok (.laload, 1) := by decide +kernel
theorem dX8_costOf_134 : decode cX8_costOf 134 = .ok (.lstore 18, 2) := by decide +kernel
theorem dX8_costOf_136 : decode cX8_costOf 136 = .ok (.lload 4, 2) := by decide +kernel
theorem dX8_costOf_138 : decode cX8_costOf 138 = .ok (.aload_n 0, 1) := by decide +kernel
theorem dX8_costOf_139 : decode cX8_costOf 139 = .ok (.getfield 131, 3) := by decide +kernel
theorem dX8_costOf_142 : decode cX8_costOf 142 = .ok (.iload_n 1, 1) := by decide +kernel
theorem dX8_costOf_143 : decode cX8_costOf 143 = .ok (.laload, 1) := by decide +kernel
theorem dX8_costOf_144 : decode cX8_costOf 144 = .ok (.ldc2_w 183, 3) := by decide +kernel
theorem dX8_costOf_147 : decode cX8_costOf 147 = .ok (.lcmp, 1) := by decide +kernel
theorem dX8_costOf_148 : decode cX8_costOf 148 = .ok (.ifCond .ne 16, 3) := by decide +kernel
theorem dX8_costOf_151 : decode cX8_costOf 151 = .ok (.lload 12, 2) := by decide +kernel
theorem dX8_costOf_153 : decode cX8_costOf 153 = .ok (.lload 18, 2) := by decide +kernel
theorem dX8_costOf_155 : decode cX8_costOf 155 = .ok (.ladd, 1) := by decide +kernel
theorem dX8_costOf_156 : decode cX8_costOf 156 = .ok (.lconst 1, 1) := by decide +kernel
theorem dX8_costOf_157 : decode cX8_costOf 157 = .ok (.lsub, 1) := by decide +kernel
theorem dX8_costOf_158 : decode cX8_costOf 158 = .ok (.lload 18, 2) := by decide +kernel
theorem dX8_costOf_160 : decode cX8_costOf 160 = .ok (.ldiv, 1) := by decide +kernel
theorem dX8_costOf_161 : decode cX8_costOf 161 = .ok (.goto 5, 3) := by decide +kernel
theorem dX8_costOf_164 : decode cX8_costOf 164 = .ok (.lload 12, 2) := by decide +kernel
theorem dX8_costOf_166 : decode cX8_costOf 166 = .ok (.lload 14, 2) := by decide +kernel
theorem dX8_costOf_168 : decode cX8_costOf 168 = .ok (.lmul, 1) := by decide +kernel
theorem dX8_costOf_169 : decode cX8_costOf 169 = .ok (.lload 16, 2) := by decide +kernel
theorem dX8_costOf_171 : decode cX8_costOf 171 = .ok (.ladd, 1) := by decide +kernel
theorem dX8_costOf_172 : decode cX8_costOf 172 = .ok (.ladd, 1) := by decide +kernel
theorem dX8_costOf_173 : decode cX8_costOf 173 = .ok (.lstore 4, 2) := by decide +kernel
theorem dX8_costOf_175 : decode cX8_costOf 175 = .ok (.lload 10, 2) := by decide +kernel
theorem dX8_costOf_177 : decode cX8_costOf 177 = .ok (.lstore 6, 2) := by decide +kernel
theorem dX8_costOf_179 : decode cX8_costOf 179 = .ok (.iinc 9 1, 3) := by decide +kernel
theorem dX8_costOf_182 : decode cX8_costOf 182 = .ok (.goto (-162), 3) := by decide +kernel
theorem dX8_costOf_185 : decode cX8_costOf 185 = .ok (.lload 4, 2) := by decide +kernel
theorem dX8_costOf_187 : decode cX8_costOf 187 = .ok (.lreturn, 1) := by decide +kernel
theorem dX8_terms_0 : decode cX8_terms 0 = .ok (.iload_n 1, 1) := by decide +kernel
theorem dX8_terms_1 : decode cX8_terms 1 = .ok (.invokestatic 7, 3) := by decide +kernel
theorem dX8_terms_4 : decode cX8_terms 4 = .ok (.ifCond .eq 41, 3) := by decide +kernel
theorem dX8_terms_7 : decode cX8_terms 7 = .ok (.iload_n 2, 1) := by decide +kernel
theorem dX8_terms_8 : decode cX8_terms 8 = .ok (.ifCond .lt 37, 3) := by decide +kernel
theorem dX8_terms_11 : decode cX8_terms 11 = .ok (.iload_n 2, 1) := by decide +kernel
theorem dX8_terms_12 : decode cX8_terms 12 = .ok (.sipush 10000, 3) := by decide +kernel
theorem dX8_terms_15 : decode cX8_terms 15 = .ok (.if_icmp .gt 30, 3) := by decide +kernel
theorem dX8_terms_18 : decode cX8_terms 18 = .ok (.lload_n 3, 1) := by decide +kernel
theorem dX8_terms_19 : decode cX8_terms 19 = .ok (.lconst 0, 1) := by decide +kernel
theorem dX8_terms_20 : decode cX8_terms 20 = .ok (.lcmp, 1) := by decide +kernel
theorem dX8_terms_21 : decode cX8_terms 21 = .ok (.ifCond .lt 24, 3) := by decide +kernel
theorem dX8_terms_24 : decode cX8_terms 24 = .ok (.lload_n 3, 1) := by decide +kernel
theorem dX8_terms_25 : decode cX8_terms 25 = .ok (.ldc2_w 185, 3) := by decide +kernel
theorem dX8_terms_28 : decode cX8_terms 28 = .ok (.lcmp, 1) := by decide +kernel
theorem dX8_terms_29 : decode cX8_terms 29 = .ok (.ifCond .gt 16, 3) := by decide +kernel
theorem dX8_terms_32 : decode cX8_terms 32 = .ok (.iload 5, 2) := by decide +kernel
theorem dX8_terms_34 : decode cX8_terms 34 = .ok (.ifCond .lt 11, 3) := by decide +kernel
theorem dX8_terms_37 : decode cX8_terms 37 = .ok (.iload 5, 2) := by decide +kernel
theorem dX8_terms_39 : decode cX8_terms 39 = .ok (.sipush 10000, 3) := by decide +kernel
theorem dX8_terms_42 : decode cX8_terms 42 = .ok (.if_icmp .le 6, 3) := by decide +kernel
theorem dX8_terms_45 : decode cX8_terms 45 = .ok (.bipush (-2), 2) := by decide +kernel
theorem dX8_terms_47 : decode cX8_terms 47 = .ok (.ireturn, 1) := by decide +kernel
theorem dX8_terms_48 : decode cX8_terms 48 = .ok (.aload_n 0, 1) := by decide +kernel
theorem dX8_terms_49 : decode cX8_terms 49 = .ok (.getfield 134, 3) := by decide +kernel
theorem dX8_terms_52 : decode cX8_terms 52 = .ok (.iload_n 1, 1) := by decide +kernel
theorem dX8_terms_53 : decode cX8_terms 53 = .ok (.iload_n 2, 1) := by decide +kernel
theorem dX8_terms_54 : decode cX8_terms 54 = .ok (.iastore, 1) := by decide +kernel
theorem dX8_terms_55 : decode cX8_terms 55 = .ok (.aload_n 0, 1) := by decide +kernel
theorem dX8_terms_56 : decode cX8_terms 56 = .ok (.getfield 137, 3) := by decide +kernel
theorem dX8_terms_59 : decode cX8_terms 59 = .ok (.iload_n 1, 1) := by decide +kernel
theorem dX8_terms_60 : decode cX8_terms 60 = .ok (.lload_n 3, 1) := by decide +kernel
theorem dX8_terms_61 : decode cX8_terms 61 = .ok (.lastore, 1) := by decide +kernel
theorem dX8_terms_62 : decode cX8_terms 62 = .ok (.aload_n 0, 1) := by decide +kernel
theorem dX8_terms_63 : decode cX8_terms 63 = .ok (.getfield 140, 3) := by decide +kernel
theorem dX8_terms_66 : decode cX8_terms 66 = .ok (.iload_n 1, 1) := by decide +kernel
theorem dX8_terms_67 : decode cX8_terms 67 = .ok (.iload 5, 2) := by decide +kernel
theorem dX8_terms_69 : decode cX8_terms 69 = .ok (.iastore, 1) := by decide +kernel
theorem dX8_terms_70 : decode cX8_terms 70 = .ok (.iconst 0, 1) := by decide +kernel
theorem dX8_terms_71 : decode cX8_terms 71 = .ok (.ireturn, 1) := by decide +kernel
theorem dX8_leftOf_0 : decode cX8_leftOf 0 = .ok (.bipush 40, 2) := by decide +kernel
theorem dX8_leftOf_2 : decode cX8_leftOf 2 = .ok (.iload_n 1, 1) := by decide +kernel
theorem dX8_leftOf_3 : decode cX8_leftOf 3 = .ok (.imul, 1) := by decide +kernel
theorem dX8_leftOf_4 : decode cX8_leftOf 4 = .ok (.iload_n 2, 1) := by decide +kernel
theorem dX8_leftOf_5 : decode cX8_leftOf 5 = .ok (.iadd, 1) := by decide +kernel
theorem dX8_leftOf_6 : decode cX8_leftOf 6 = .ok (.istore_n 3, 1) := by decide +kernel
theorem dX8_leftOf_7 : decode cX8_leftOf 7 = .ok (.aload_n 0, 1) := by decide +kernel
theorem dX8_leftOf_8 : decode cX8_leftOf 8 = .ok (.getfield 149, 3) := by decide +kernel
theorem dX8_leftOf_11 : decode cX8_leftOf 11 = .ok (.iload_n 3, 1) := by decide +kernel
theorem dX8_leftOf_12 : decode cX8_leftOf 12 = .ok (.iaload, 1) := by decide +kernel
theorem dX8_leftOf_13 : decode cX8_leftOf 13 = .ok (.aload_n 0, 1) := by decide +kernel
theorem dX8_leftOf_14 : decode cX8_leftOf 14 = .ok (.getfield 49, 3) := by decide +kernel
theorem dX8_leftOf_17 : decode cX8_leftOf 17 = .ok (.iload_n 1, 1) := by decide +kernel
theorem dX8_leftOf_18 : decode cX8_leftOf 18 = .ok (.iaload, 1) := by decide +kernel
theorem dX8_leftOf_19 : decode cX8_leftOf 19 = .ok (.if_icmp .ge 7, 3) := by decide +kernel
theorem dX8_leftOf_22 : decode cX8_leftOf 22 = .ok (.lconst 0, 1) := by decide +kernel
theorem dX8_leftOf_23 : decode cX8_leftOf 23 = .ok (.goto 9, 3) := by decide +kernel
theorem dX8_leftOf_26 : decode cX8_leftOf 26 = .ok (.aload_n 0, 1) := by decide +kernel
theorem dX8_leftOf_27 : decode cX8_leftOf 27 = .ok (.getfield 146, 3) := by decide +kernel
theorem dX8_leftOf_30 : decode cX8_leftOf 30 = .ok (.iload_n 3, 1) := by decide +kernel
theorem dX8_leftOf_31 : decode cX8_leftOf 31 = .ok (.laload, 1) := by decide +kernel
theorem dX8_leftOf_32 : decode cX8_leftOf 32 = .ok (.lreturn, 1) := by decide +kernel
theorem dX8_credit_0 : decode cX8_credit 0 = .ok (.iload_n 1, 1) := by decide +kernel
theorem dX8_credit_1 : decode cX8_credit 1 = .ok (.invokestatic 7, 3) := by decide +kernel
theorem dX8_credit_4 : decode cX8_credit 4 = .ok (.ifCond .eq 40, 3) := by decide +kernel
theorem dX8_credit_7 : decode cX8_credit 7 = .ok (.lload_n 2, 1) := by decide +kernel
theorem dX8_credit_8 : decode cX8_credit 8 = .ok (.lconst 1, 1) := by decide +kernel
theorem dX8_credit_9 : decode cX8_credit 9 = .ok (.lcmp, 1) := by decide +kernel
theorem dX8_credit_10 : decode cX8_credit 10 = .ok (.ifCond .lt 34, 3) := by decide +kernel
theorem dX8_credit_13 : decode cX8_credit 13 = .ok (.lload_n 2, 1) := by decide +kernel
theorem dX8_credit_14 : decode cX8_credit 14 = .ok (.ldc2_w 185, 3) := by decide +kernel
theorem dX8_credit_17 : decode cX8_credit 17 = .ok (.lcmp, 1) := by decide +kernel
theorem dX8_credit_18 : decode cX8_credit 18 = .ok (.ifCond .gt 26, 3) := by decide +kernel
theorem dX8_credit_21 : decode cX8_credit 21 = .ok (.iload 4, 2) := by decide +kernel
theorem dX8_credit_23 : decode cX8_credit 23 = .ok (.ifCond .lt 21, 3) := by decide +kernel
theorem dX8_credit_26 : decode cX8_credit 26 = .ok (.iload 4, 2) := by decide +kernel
theorem dX8_credit_28 : decode cX8_credit 28 = .ok (.bipush 100, 2) := by decide +kernel
theorem dX8_credit_30 : decode cX8_credit 30 = .ok (.if_icmp .ge 14, 3) := by decide +kernel
theorem dX8_credit_33 : decode cX8_credit 33 = .ok (.iload 4, 2) := by decide +kernel
theorem dX8_credit_35 : decode cX8_credit 35 = .ok (.aload_n 0, 1) := by decide +kernel
theorem dX8_credit_36 : decode cX8_credit 36 = .ok (.getfield 49, 3) := by decide +kernel
theorem dX8_credit_39 : decode cX8_credit 39 = .ok (.iload_n 1, 1) := by decide +kernel
theorem dX8_credit_40 : decode cX8_credit 40 = .ok (.iaload, 1) := by decide +kernel
theorem dX8_credit_41 : decode cX8_credit 41 = .ok (.if_icmp .ge 6, 3) := by decide +kernel
theorem dX8_credit_44 : decode cX8_credit 44 = .ok (.bipush (-2), 2) := by decide +kernel
theorem dX8_credit_46 : decode cX8_credit 46 = .ok (.ireturn, 1) := by decide +kernel
theorem dX8_credit_47 : decode cX8_credit 47 = .ok (.iconst 0, 1) := by decide +kernel
theorem dX8_credit_48 : decode cX8_credit 48 = .ok (.istore 5, 2) := by decide +kernel
theorem dX8_credit_50 : decode cX8_credit 50 = .ok (.iconst 0, 1) := by decide +kernel
theorem dX8_credit_51 : decode cX8_credit 51 = .ok (.istore 6, 2) := by decide +kernel
theorem dX8_credit_53 : decode cX8_credit 53 = .ok (.iload 6, 2) := by decide +kernel
theorem dX8_credit_55 : decode cX8_credit 55 = .ok (.aload_n 0, 1) := by decide +kernel
theorem dX8_credit_56 : decode cX8_credit 56 = .ok (.getfield 143, 3) := by decide +kernel
theorem dX8_credit_59 : decode cX8_credit 59 = .ok (.iload_n 1, 1) := by decide +kernel
theorem dX8_credit_60 : decode cX8_credit 60 = .ok (.iaload, 1) := by decide +kernel
theorem dX8_credit_61 : decode cX8_credit 61 = .ok (.if_icmp .ge 31, 3) := by decide +kernel
theorem dX8_credit_64 : decode cX8_credit 64 = .ok (.iload 5, 2) := by decide +kernel
theorem dX8_credit_66 : decode cX8_credit 66 = .ok (.aload_n 0, 1) := by decide +kernel
theorem dX8_credit_67 : decode cX8_credit 67 = .ok (.iload_n 1, 1) := by decide +kernel
theorem dX8_credit_68 : decode cX8_credit 68 = .ok (.iload 6, 2) := by decide +kernel
theorem dX8_credit_70 : decode cX8_credit 70 = .ok (.invokevirtual 187, 3) := by decide +kernel
theorem dX8_credit_73 : decode cX8_credit 73 = .ok (.lconst 0, 1) := by decide +kernel
theorem dX8_credit_74 : decode cX8_credit 74 = .ok (.lcmp, 1) := by decide +kernel
theorem dX8_credit_75 : decode cX8_credit 75 = .ok (.ifCond .le 7, 3) := by decide +kernel
theorem dX8_credit_78 : decode cX8_credit 78 = .ok (.iconst 1, 1) := by decide +kernel
theorem dX8_credit_79 : decode cX8_credit 79 = .ok (.goto 4, 3) := by decide +kernel
theorem dX8_credit_82 : decode cX8_credit 82 = .ok (.iconst 0, 1) := by decide +kernel
theorem dX8_credit_83 : decode cX8_credit 83 = .ok (.iadd, 1) := by decide +kernel
theorem dX8_credit_84 : decode cX8_credit 84 = .ok (.istore 5, 2) := by decide +kernel
theorem dX8_credit_86 : decode cX8_credit 86 = .ok (.iinc 6 1, 3) := by decide +kernel
theorem dX8_credit_89 : decode cX8_credit 89 = .ok (.goto (-36), 3) := by decide +kernel
theorem dX8_credit_92 : decode cX8_credit 92 = .ok (.iload 5, 2) := by decide +kernel
theorem dX8_credit_94 : decode cX8_credit 94 = .ok (.bipush 10, 2) := by decide +kernel
theorem dX8_credit_96 : decode cX8_credit 96 = .ok (.if_icmp .eq 14, 3) := by decide +kernel
theorem dX8_credit_99 : decode cX8_credit 99 = .ok (.aload_n 0, 1) := by decide +kernel
theorem dX8_credit_100 : decode cX8_credit 100 = .ok (.getfield 143, 3) := by decide +kernel
theorem dX8_credit_103 : decode cX8_credit 103 = .ok (.iload_n 1, 1) := by decide +kernel
theorem dX8_credit_104 : decode cX8_credit 104 = .ok (.iaload, 1) := by decide +kernel
theorem dX8_credit_105 : decode cX8_credit 105 = .ok (.bipush 40, 2) := by decide +kernel
theorem dX8_credit_107 : decode cX8_credit 107 = .ok (.if_icmp .ne 6, 3) := by decide +kernel
theorem dX8_credit_110 : decode cX8_credit 110 = .ok (.bipush (-3), 2) := by decide +kernel
theorem dX8_credit_112 : decode cX8_credit 112 = .ok (.ireturn, 1) := by decide +kernel
theorem dX8_credit_113 : decode cX8_credit 113 = .ok (.aload_n 0, 1) := by decide +kernel
theorem dX8_credit_114 : decode cX8_credit 114 = .ok (.getfield 146, 3) := by decide +kernel
theorem dX8_credit_117 : decode cX8_credit 117 = .ok (.bipush 40, 2) := by decide +kernel
theorem dX8_credit_119 : decode cX8_credit 119 = .ok (.iload_n 1, 1) := by decide +kernel
theorem dX8_credit_120 : decode cX8_credit 120 = .ok (.imul, 1) := by decide +kernel
theorem dX8_credit_121 : decode cX8_credit 121 = .ok (.aload_n 0, 1) := by decide +kernel
theorem dX8_credit_122 : decode cX8_credit 122 = .ok (.getfield 143, 3) := by decide +kernel
theorem dX8_credit_125 : decode cX8_credit 125 = .ok (.iload_n 1, 1) := by decide +kernel
theorem dX8_credit_126 : decode cX8_credit 126 = .ok (.iaload, 1) := by decide +kernel
theorem dX8_credit_127 : decode cX8_credit 127 = .ok (.iadd, 1) := by decide +kernel
theorem dX8_credit_128 : decode cX8_credit 128 = .ok (.lload_n 2, 1) := by decide +kernel
theorem dX8_credit_129 : decode cX8_credit 129 = .ok (.lastore, 1) := by decide +kernel
theorem dX8_credit_130 : decode cX8_credit 130 = .ok (.aload_n 0, 1) := by decide +kernel
theorem dX8_credit_131 : decode cX8_credit 131 = .ok (.getfield 149, 3) := by decide +kernel
theorem dX8_credit_134 : decode cX8_credit 134 = .ok (.bipush 40, 2) := by decide +kernel
theorem dX8_credit_136 : decode cX8_credit 136 = .ok (.iload_n 1, 1) := by decide +kernel
theorem dX8_credit_137 : decode cX8_credit 137 = .ok (.imul, 1) := by decide +kernel
theorem dX8_credit_138 : decode cX8_credit 138 = .ok (.aload_n 0, 1) := by decide +kernel
theorem dX8_credit_139 : decode cX8_credit 139 = .ok (.getfield 143, 3) := by decide +kernel
theorem dX8_credit_142 : decode cX8_credit 142 = .ok (.iload_n 1, 1) := by decide +kernel
theorem dX8_credit_143 : decode cX8_credit 143 = .ok (.iaload, 1) := by decide +kernel
theorem dX8_credit_144 : decode cX8_credit 144 = .ok (.iadd, 1) := by decide +kernel
theorem dX8_credit_145 : decode cX8_credit 145 = .ok (.iload 4, 2) := by decide +kernel
theorem dX8_credit_147 : decode cX8_credit 147 = .ok (.iastore, 1) := by decide +kernel
theorem dX8_credit_148 : decode cX8_credit 148 = .ok (.aload_n 0, 1) := by decide +kernel
theorem dX8_credit_149 : decode cX8_credit 149 = .ok (.getfield 143, 3) := by decide +kernel
theorem dX8_credit_152 : decode cX8_credit 152 = .ok (.iload_n 1, 1) := by decide +kernel
theorem dX8_credit_153 : decode cX8_credit 153 = .ok (.dup2, 1) := by decide +kernel
theorem dX8_credit_154 : decode cX8_credit 154 = .ok (.iaload, 1) := by decide +kernel
theorem dX8_credit_155 : decode cX8_credit 155 = .ok (.iconst 1, 1) := by decide +kernel
theorem dX8_credit_156 : decode cX8_credit 156 = .ok (.iadd, 1) := by decide +kernel
theorem dX8_credit_157 : decode cX8_credit 157 = .ok (.iastore, 1) := by decide +kernel
theorem dX8_credit_158 : decode cX8_credit 158 = .ok (.aload_n 0, 1) := by decide +kernel
theorem dX8_credit_159 : decode cX8_credit 159 = .ok (.getfield 143, 3) := by decide +kernel
theorem dX8_credit_162 : decode cX8_credit 162 = .ok (.iload_n 1, 1) := by decide +kernel
theorem dX8_credit_163 : decode cX8_credit 163 = .ok (.iaload, 1) := by decide +kernel
theorem dX8_credit_164 : decode cX8_credit 164 = .ok (.iconst 1, 1) := by decide +kernel
theorem dX8_credit_165 : decode cX8_credit 165 = .ok (.isub, 1) := by decide +kernel
theorem dX8_credit_166 : decode cX8_credit 166 = .ok (.ireturn, 1) := by decide +kernel
theorem dX8_left_0 : decode cX8_left 0 = .ok (.iload_n 1, 1) := by decide +kernel
theorem dX8_left_1 : decode cX8_left 1 = .ok (.invokestatic 7, 3) := by decide +kernel
theorem dX8_left_4 : decode cX8_left 4 = .ok (.ifCond .eq 26, 3) := by decide +kernel
theorem dX8_left_7 : decode cX8_left 7 = .ok (.iload_n 2, 1) := by decide +kernel
theorem dX8_left_8 : decode cX8_left 8 = .ok (.ifCond .lt 22, 3) := by decide +kernel
theorem dX8_left_11 : decode cX8_left 11 = .ok (.iload_n 2, 1) := by decide +kernel
theorem dX8_left_12 : decode cX8_left 12 = .ok (.aload_n 0, 1) := by decide +kernel
theorem dX8_left_13 : decode cX8_left 13 = .ok (.getfield 143, 3) := by decide +kernel
theorem dX8_left_16 : decode cX8_left 16 = .ok (.iload_n 1, 1) := by decide +kernel
theorem dX8_left_17 : decode cX8_left 17 = .ok (.iaload, 1) := by decide +kernel
theorem dX8_left_18 : decode cX8_left 18 = .ok (.if_icmp .ge 12, 3) := by decide +kernel
theorem dX8_left_21 : decode cX8_left 21 = .ok (.aload_n 0, 1) := by decide +kernel
theorem dX8_left_22 : decode cX8_left 22 = .ok (.iload_n 1, 1) := by decide +kernel
theorem dX8_left_23 : decode cX8_left 23 = .ok (.iload_n 2, 1) := by decide +kernel
theorem dX8_left_24 : decode cX8_left 24 = .ok (.invokevirtual 187, 3) := by decide +kernel
theorem dX8_left_27 : decode cX8_left 27 = .ok (.goto 6, 3) := by decide +kernel
theorem dX8_left_30 : decode cX8_left 30 = .ok (.ldc2_w 75, 3) := by decide +kernel
theorem dX8_left_33 : decode cX8_left 33 = .ok (.lreturn, 1) := by decide +kernel
theorem dX8_quantity_0 : decode cX8_quantity 0 = .ok (.lconst 0, 1) := by decide +kernel
theorem dX8_quantity_1 : decode cX8_quantity 1 = .ok (.lstore 4, 2) := by decide +kernel
theorem dX8_quantity_3 : decode cX8_quantity 3 = .ok (.iconst 0, 1) := by decide +kernel
theorem dX8_quantity_4 : decode cX8_quantity 4 = .ok (.istore 6, 2) := by decide +kernel
theorem dX8_quantity_6 : decode cX8_quantity 6 = .ok (.iload 6, 2) := by decide +kernel
theorem dX8_quantity_8 : decode cX8_quantity 8 = .ok (.aload_n 0, 1) := by decide +kernel
theorem dX8_quantity_9 : decode cX8_quantity 9 = .ok (.getfield 3, 3) := by decide +kernel
theorem dX8_quantity_12 : decode cX8_quantity 12 = .ok (.if_icmp .ge 41, 3) := by decide +kernel
theorem dX8_quantity_15 : decode cX8_quantity 15 = .ok (.lload 4, 2) := by decide +kernel
theorem dX8_quantity_17 : decode cX8_quantity 17 = .ok (.aload_n 0, 1) := by decide +kernel
theorem dX8_quantity_18 : decode cX8_quantity 18 = .ok (.getfield 14, 3) := by decide +kernel
end
section
theorem dX8_quantity_21 : decode cX8_quantity 21 = .ok (.iload 6, 2) := by decide +kernel
theorem dX8_quantity_23 : decode cX8_quantity 23 = .ok (.iaload, 1) := by decide +kernel
theorem dX8_quantity_24 : decode cX8_quantity 24 = .ok (.iload_n 1, 1) := by decide +kernel
theorem dX8_quantity_25 : decode cX8_quantity 25 = .ok (.if_icmp .ne 18, 3) := by decide +kernel
theorem dX8_quantity_28 : decode cX8_quantity 28 = .ok (.aload_n 0, 1) := by decide +kernel
theorem dX8_quantity_29 : decode cX8_quantity 29 = .ok (.getfield 56, 3) := by decide +kernel
theorem dX8_quantity_32 : decode cX8_quantity 32 = .ok (.iload 6, 2) := by decide +kernel
theorem dX8_quantity_34 : decode cX8_quantity 34 = .ok (.iload_n 2, 1) := by decide +kernel
theorem dX8_quantity_35 : decode cX8_quantity 35 = .ok (.iload_n 3, 1) := by decide +kernel
theorem dX8_quantity_36 : decode cX8_quantity 36 = .ok (.invokestatic 59, 3) := by decide +kernel
theorem dX8_quantity_39 : decode cX8_quantity 39 = .ok (.laload, 1) := by decide +kernel
theorem dX8_quantity_40 : decode cX8_quantity 40 = .ok (.goto 4, 3) := by decide +kernel
theorem dX8_quantity_43 : decode cX8_quantity 43 = .ok (.lconst 0, 1) := by decide +kernel
theorem dX8_quantity_44 : decode cX8_quantity 44 = .ok (.ladd, 1) := by decide +kernel
theorem dX8_quantity_45 : decode cX8_quantity 45 = .ok (.lstore 4, 2) := by decide +kernel
theorem dX8_quantity_47 : decode cX8_quantity 47 = .ok (.iinc 6 1, 3) := by decide +kernel
theorem dX8_quantity_50 : decode cX8_quantity 50 = .ok (.goto (-44), 3) := by decide +kernel
theorem dX8_quantity_53 : decode cX8_quantity 53 = .ok (.lload 4, 2) := by decide +kernel
theorem dX8_quantity_55 : decode cX8_quantity 55 = .ok (.lreturn, 1) := by decide +kernel
theorem dX8_invoiceOf_0 : decode cX8_invoiceOf 0 = .ok (.iconst 0, 1) := by decide +kernel
theorem dX8_invoiceOf_1 : decode cX8_invoiceOf 1 = .ok (.istore_n 3, 1) := by decide +kernel
theorem dX8_invoiceOf_2 : decode cX8_invoiceOf 2 = .ok (.aload_n 0, 1) := by decide +kernel
theorem dX8_invoiceOf_3 : decode cX8_invoiceOf 3 = .ok (.getfield 161, 3) := by decide +kernel
theorem dX8_invoiceOf_6 : decode cX8_invoiceOf 6 = .ok (.iload_n 3, 1) := by decide +kernel
theorem dX8_invoiceOf_7 : decode cX8_invoiceOf 7 = .ok (.iaload, 1) := by decide +kernel
theorem dX8_invoiceOf_8 : decode cX8_invoiceOf 8 = .ok (.iload_n 1, 1) := by decide +kernel
theorem dX8_invoiceOf_9 : decode cX8_invoiceOf 9 = .ok (.if_icmp .ne 13, 3) := by decide +kernel
theorem dX8_invoiceOf_12 : decode cX8_invoiceOf 12 = .ok (.aload_n 0, 1) := by decide +kernel
theorem dX8_invoiceOf_13 : decode cX8_invoiceOf 13 = .ok (.getfield 164, 3) := by decide +kernel
theorem dX8_invoiceOf_16 : decode cX8_invoiceOf 16 = .ok (.iload_n 3, 1) := by decide +kernel
theorem dX8_invoiceOf_17 : decode cX8_invoiceOf 17 = .ok (.iaload, 1) := by decide +kernel
theorem dX8_invoiceOf_18 : decode cX8_invoiceOf 18 = .ok (.iload_n 2, 1) := by decide +kernel
theorem dX8_invoiceOf_19 : decode cX8_invoiceOf 19 = .ok (.if_icmp .eq 9, 3) := by decide +kernel
theorem dX8_invoiceOf_22 : decode cX8_invoiceOf 22 = .ok (.iinc 3 1, 3) := by decide +kernel
theorem dX8_invoiceOf_25 : decode cX8_invoiceOf 25 = .ok (.goto (-23), 3) := by decide +kernel
theorem dX8_invoiceOf_28 : decode cX8_invoiceOf 28 = .ok (.iload_n 3, 1) := by decide +kernel
theorem dX8_invoiceOf_29 : decode cX8_invoiceOf 29 = .ok (.ireturn, 1) := by decide +kernel
theorem dX8_adjust_0 : decode cX8_adjust 0 = .ok (.bipush 18, 2) := by decide +kernel
theorem dX8_adjust_2 : decode cX8_adjust 2 = .ok (.bipush 24, 2) := by decide +kernel
theorem dX8_adjust_4 : decode cX8_adjust 4 = .ok (.iconst 4, 1) := by decide +kernel
theorem dX8_adjust_5 : decode cX8_adjust 5 = .ok (.aload_n 0, 1) := by decide +kernel
theorem dX8_adjust_6 : decode cX8_adjust 6 = .ok (.iload_n 1, 1) := by decide +kernel
theorem dX8_adjust_7 : decode cX8_adjust 7 = .ok (.iload_n 3, 1) := by decide +kernel
theorem dX8_adjust_8 : decode cX8_adjust 8 = .ok (.invokevirtual 190, 3) := by decide +kernel
theorem dX8_adjust_11 : decode cX8_adjust 11 = .ok (.imul, 1) := by decide +kernel
theorem dX8_adjust_12 : decode cX8_adjust 12 = .ok (.iadd, 1) := by decide +kernel
theorem dX8_adjust_13 : decode cX8_adjust 13 = .ok (.iload_n 2, 1) := by decide +kernel
theorem dX8_adjust_14 : decode cX8_adjust 14 = .ok (.iadd, 1) := by decide +kernel
theorem dX8_adjust_15 : decode cX8_adjust 15 = .ok (.imul, 1) := by decide +kernel
theorem dX8_adjust_16 : decode cX8_adjust 16 = .ok (.istore 5, 2) := by decide +kernel
theorem dX8_adjust_18 : decode cX8_adjust 18 = .ok (.aload_n 0, 1) := by decide +kernel
theorem dX8_adjust_19 : decode cX8_adjust 19 = .ok (.iload_n 1, 1) := by decide +kernel
theorem dX8_adjust_20 : decode cX8_adjust 20 = .ok (.iload_n 2, 1) := by decide +kernel
theorem dX8_adjust_21 : decode cX8_adjust 21 = .ok (.iload_n 3, 1) := by decide +kernel
theorem dX8_adjust_22 : decode cX8_adjust 22 = .ok (.invokevirtual 193, 3) := by decide +kernel
theorem dX8_adjust_25 : decode cX8_adjust 25 = .ok (.lstore 6, 2) := by decide +kernel
theorem dX8_adjust_27 : decode cX8_adjust 27 = .ok (.iconst 4, 1) := by decide +kernel
theorem dX8_adjust_28 : decode cX8_adjust 28 = .ok (.iload_n 1, 1) := by decide +kernel
theorem dX8_adjust_29 : decode cX8_adjust 29 = .ok (.imul, 1) := by decide +kernel
theorem dX8_adjust_30 : decode cX8_adjust 30 = .ok (.iload_n 2, 1) := by decide +kernel
theorem dX8_adjust_31 : decode cX8_adjust 31 = .ok (.iadd, 1) := by decide +kernel
theorem dX8_adjust_32 : decode cX8_adjust 32 = .ok (.istore 8, 2) := by decide +kernel
theorem dX8_adjust_34 : decode cX8_adjust 34 = .ok (.aload_n 0, 1) := by decide +kernel
theorem dX8_adjust_35 : decode cX8_adjust 35 = .ok (.getfield 152, 3) := by decide +kernel
theorem dX8_adjust_38 : decode cX8_adjust 38 = .ok (.iload 8, 2) := by decide +kernel
theorem dX8_adjust_40 : decode cX8_adjust 40 = .ok (.dup2, 1) := by decide +kernel
theorem dX8_adjust_41 : decode cX8_adjust 41 = .ok (.laload, 1) := by decide +kernel
theorem dX8_adjust_42 : decode cX8_adjust 42 = .ok (.iload 4, 2) := by decide +kernel
theorem dX8_adjust_44 : decode cX8_adjust 44 = .ok (.i2l, 1) := by decide +kernel
theorem dX8_adjust_45 : decode cX8_adjust 45 = .ok (.ladd, 1) := by decide +kernel
theorem dX8_adjust_46 : decode cX8_adjust 46 = .ok (.lastore, 1) := by decide +kernel
theorem dX8_adjust_47 : decode cX8_adjust 47 = .ok (.aload_n 0, 1) := by decide +kernel
theorem dX8_adjust_48 : decode cX8_adjust 48 = .ok (.getfield 155, 3) := by decide +kernel
theorem dX8_adjust_51 : decode cX8_adjust 51 = .ok (.iload 8, 2) := by decide +kernel
theorem dX8_adjust_53 : decode cX8_adjust 53 = .ok (.dup2, 1) := by decide +kernel
theorem dX8_adjust_54 : decode cX8_adjust 54 = .ok (.laload, 1) := by decide +kernel
theorem dX8_adjust_55 : decode cX8_adjust 55 = .ok (.aload_n 0, 1) := by decide +kernel
theorem dX8_adjust_56 : decode cX8_adjust 56 = .ok (.iload 5, 2) := by decide +kernel
theorem dX8_adjust_58 : decode cX8_adjust 58 = .ok (.lload 6, 2) := by decide +kernel
theorem dX8_adjust_60 : decode cX8_adjust 60 = .ok (.iload 4, 2) := by decide +kernel
theorem dX8_adjust_62 : decode cX8_adjust 62 = .ok (.i2l, 1) := by decide +kernel
theorem dX8_adjust_63 : decode cX8_adjust 63 = .ok (.ladd, 1) := by decide +kernel
theorem dX8_adjust_64 : decode cX8_adjust 64 = .ok (.invokevirtual 179, 3) := by decide +kernel
theorem dX8_adjust_67 : decode cX8_adjust 67 = .ok (.aload_n 0, 1) := by decide +kernel
theorem dX8_adjust_68 : decode cX8_adjust 68 = .ok (.iload 5, 2) := by decide +kernel
theorem dX8_adjust_70 : decode cX8_adjust 70 = .ok (.lload 6, 2) := by decide +kernel
theorem dX8_adjust_72 : decode cX8_adjust 72 = .ok (.invokevirtual 179, 3) := by decide +kernel
theorem dX8_adjust_75 : decode cX8_adjust 75 = .ok (.lsub, 1) := by decide +kernel
theorem dX8_adjust_76 : decode cX8_adjust 76 = .ok (.ladd, 1) := by decide +kernel
theorem dX8_adjust_77 : decode cX8_adjust 77 = .ok (.lastore, 1) := by decide +kernel
theorem dX8_adjust_78 : decode cX8_adjust 78 = .ok (.aload_n 0, 1) := by decide +kernel
theorem dX8_adjust_79 : decode cX8_adjust 79 = .ok (.getfield 158, 3) := by decide +kernel
theorem dX8_adjust_82 : decode cX8_adjust 82 = .ok (.iload 8, 2) := by decide +kernel
theorem dX8_adjust_84 : decode cX8_adjust 84 = .ok (.iconst 1, 1) := by decide +kernel
theorem dX8_adjust_85 : decode cX8_adjust 85 = .ok (.bastore, 1) := by decide +kernel
theorem dX8_adjust_86 : decode cX8_adjust 86 = .ok (.return_, 1) := by decide +kernel
theorem dX8_part_0 : decode cX8_part 0 = .ok (.lload_n 0, 1) := by decide +kernel
theorem dX8_part_1 : decode cX8_part 1 = .ok (.ldc2_w 196, 3) := by decide +kernel
theorem dX8_part_4 : decode cX8_part 4 = .ok (.invokestatic 198, 3) := by decide +kernel
theorem dX8_part_7 : decode cX8_part 7 = .ok (.iload_n 2, 1) := by decide +kernel
theorem dX8_part_8 : decode cX8_part 8 = .ok (.i2l, 1) := by decide +kernel
theorem dX8_part_9 : decode cX8_part 9 = .ok (.lmul, 1) := by decide +kernel
theorem dX8_part_10 : decode cX8_part 10 = .ok (.lstore_n 3, 1) := by decide +kernel
theorem dX8_part_11 : decode cX8_part 11 = .ok (.lload_n 0, 1) := by decide +kernel
theorem dX8_part_12 : decode cX8_part 12 = .ok (.ldc2_w 196, 3) := by decide +kernel
theorem dX8_part_15 : decode cX8_part 15 = .ok (.invokestatic 201, 3) := by decide +kernel
theorem dX8_part_18 : decode cX8_part 18 = .ok (.iload_n 2, 1) := by decide +kernel
theorem dX8_part_19 : decode cX8_part 19 = .ok (.i2l, 1) := by decide +kernel
theorem dX8_part_20 : decode cX8_part 20 = .ok (.lmul, 1) := by decide +kernel
theorem dX8_part_21 : decode cX8_part 21 = .ok (.lstore 5, 2) := by decide +kernel
theorem dX8_part_23 : decode cX8_part 23 = .ok (.lload_n 3, 1) := by decide +kernel
theorem dX8_part_24 : decode cX8_part 24 = .ok (.lload 5, 2) := by decide +kernel
theorem dX8_part_26 : decode cX8_part 26 = .ok (.ldc2_w 196, 3) := by decide +kernel
theorem dX8_part_29 : decode cX8_part 29 = .ok (.ldiv, 1) := by decide +kernel
theorem dX8_part_30 : decode cX8_part 30 = .ok (.ladd, 1) := by decide +kernel
theorem dX8_part_31 : decode cX8_part 31 = .ok (.lstore_n 3, 1) := by decide +kernel
theorem dX8_part_32 : decode cX8_part 32 = .ok (.lload 5, 2) := by decide +kernel
theorem dX8_part_34 : decode cX8_part 34 = .ok (.ldc2_w 196, 3) := by decide +kernel
theorem dX8_part_37 : decode cX8_part 37 = .ok (.lrem, 1) := by decide +kernel
theorem dX8_part_38 : decode cX8_part 38 = .ok (.lstore 5, 2) := by decide +kernel
theorem dX8_part_40 : decode cX8_part 40 = .ok (.lload 5, 2) := by decide +kernel
theorem dX8_part_42 : decode cX8_part 42 = .ok (.ldc2_w 204, 3) := by decide +kernel
theorem dX8_part_45 : decode cX8_part 45 = .ok (.lcmp, 1) := by decide +kernel
theorem dX8_part_46 : decode cX8_part 46 = .ok (.ifCond .gt 20, 3) := by decide +kernel
theorem dX8_part_49 : decode cX8_part 49 = .ok (.lload 5, 2) := by decide +kernel
theorem dX8_part_51 : decode cX8_part 51 = .ok (.ldc2_w 204, 3) := by decide +kernel
theorem dX8_part_54 : decode cX8_part 54 = .ok (.lcmp, 1) := by decide +kernel
theorem dX8_part_55 : decode cX8_part 55 = .ok (.ifCond .ne 15, 3) := by decide +kernel
theorem dX8_part_58 : decode cX8_part 58 = .ok (.lload_n 3, 1) := by decide +kernel
theorem dX8_part_59 : decode cX8_part 59 = .ok (.lconst 1, 1) := by decide +kernel
theorem dX8_part_60 : decode cX8_part 60 = .ok (.land, 1) := by decide +kernel
theorem dX8_part_61 : decode cX8_part 61 = .ok (.lconst 0, 1) := by decide +kernel
theorem dX8_part_62 : decode cX8_part 62 = .ok (.lcmp, 1) := by decide +kernel
theorem dX8_part_63 : decode cX8_part 63 = .ok (.ifCond .eq 7, 3) := by decide +kernel
theorem dX8_part_66 : decode cX8_part 66 = .ok (.iconst 1, 1) := by decide +kernel
theorem dX8_part_67 : decode cX8_part 67 = .ok (.goto 4, 3) := by decide +kernel
theorem dX8_part_70 : decode cX8_part 70 = .ok (.iconst 0, 1) := by decide +kernel
theorem dX8_part_71 : decode cX8_part 71 = .ok (.istore 7, 2) := by decide +kernel
theorem dX8_part_73 : decode cX8_part 73 = .ok (.iload 7, 2) := by decide +kernel
theorem dX8_part_75 : decode cX8_part 75 = .ok (.ifCond .eq 9, 3) := by decide +kernel
theorem dX8_part_78 : decode cX8_part 78 = .ok (.lload_n 3, 1) := by decide +kernel
theorem dX8_part_79 : decode cX8_part 79 = .ok (.lconst 1, 1) := by decide +kernel
theorem dX8_part_80 : decode cX8_part 80 = .ok (.ladd, 1) := by decide +kernel
theorem dX8_part_81 : decode cX8_part 81 = .ok (.goto 4, 3) := by decide +kernel
theorem dX8_part_84 : decode cX8_part 84 = .ok (.lload_n 3, 1) := by decide +kernel
theorem dX8_part_85 : decode cX8_part 85 = .ok (.lreturn, 1) := by decide +kernel
theorem dX8_line_0 : decode cX8_line 0 = .ok (.iconst 4, 1) := by decide +kernel
theorem dX8_line_1 : decode cX8_line 1 = .ok (.bipush 60, 2) := by decide +kernel
theorem dX8_line_3 : decode cX8_line 3 = .ok (.aload_n 0, 1) := by decide +kernel
theorem dX8_line_4 : decode cX8_line 4 = .ok (.getfield 206, 3) := by decide +kernel
theorem dX8_line_7 : decode cX8_line 7 = .ok (.imul, 1) := by decide +kernel
theorem dX8_line_8 : decode cX8_line 8 = .ok (.aload_n 0, 1) := by decide +kernel
theorem dX8_line_9 : decode cX8_line 9 = .ok (.getfield 167, 3) := by decide +kernel
theorem dX8_line_12 : decode cX8_line 12 = .ok (.aload_n 0, 1) := by decide +kernel
theorem dX8_line_13 : decode cX8_line 13 = .ok (.getfield 206, 3) := by decide +kernel
theorem dX8_line_16 : decode cX8_line 16 = .ok (.iaload, 1) := by decide +kernel
theorem dX8_line_17 : decode cX8_line 17 = .ok (.iadd, 1) := by decide +kernel
theorem dX8_line_18 : decode cX8_line 18 = .ok (.imul, 1) := by decide +kernel
theorem dX8_line_19 : decode cX8_line 19 = .ok (.istore 7, 2) := by decide +kernel
theorem dX8_line_21 : decode cX8_line 21 = .ok (.aload_n 0, 1) := by decide +kernel
theorem dX8_line_22 : decode cX8_line 22 = .ok (.getfield 170, 3) := by decide +kernel
theorem dX8_line_25 : decode cX8_line 25 = .ok (.iload 7, 2) := by decide +kernel
theorem dX8_line_27 : decode cX8_line 27 = .ok (.iload_n 1, 1) := by decide +kernel
theorem dX8_line_28 : decode cX8_line 28 = .ok (.i2l, 1) := by decide +kernel
theorem dX8_line_29 : decode cX8_line 29 = .ok (.lastore, 1) := by decide +kernel
theorem dX8_line_30 : decode cX8_line 30 = .ok (.aload_n 0, 1) := by decide +kernel
theorem dX8_line_31 : decode cX8_line 31 = .ok (.getfield 170, 3) := by decide +kernel
theorem dX8_line_34 : decode cX8_line 34 = .ok (.iload 7, 2) := by decide +kernel
theorem dX8_line_36 : decode cX8_line 36 = .ok (.iconst 1, 1) := by decide +kernel
theorem dX8_line_37 : decode cX8_line 37 = .ok (.iadd, 1) := by decide +kernel
theorem dX8_line_38 : decode cX8_line 38 = .ok (.iload_n 2, 1) := by decide +kernel
theorem dX8_line_39 : decode cX8_line 39 = .ok (.i2l, 1) := by decide +kernel
theorem dX8_line_40 : decode cX8_line 40 = .ok (.lastore, 1) := by decide +kernel
theorem dX8_line_41 : decode cX8_line 41 = .ok (.aload_n 0, 1) := by decide +kernel
theorem dX8_line_42 : decode cX8_line 42 = .ok (.getfield 170, 3) := by decide +kernel
theorem dX8_line_45 : decode cX8_line 45 = .ok (.iload 7, 2) := by decide +kernel
theorem dX8_line_47 : decode cX8_line 47 = .ok (.iconst 2, 1) := by decide +kernel
theorem dX8_line_48 : decode cX8_line 48 = .ok (.iadd, 1) := by decide +kernel
theorem dX8_line_49 : decode cX8_line 49 = .ok (.lload_n 3, 1) := by decide +kernel
theorem dX8_line_50 : decode cX8_line 50 = .ok (.lastore, 1) := by decide +kernel
theorem dX8_line_51 : decode cX8_line 51 = .ok (.aload_n 0, 1) := by decide +kernel
theorem dX8_line_52 : decode cX8_line 52 = .ok (.getfield 170, 3) := by decide +kernel
theorem dX8_line_55 : decode cX8_line 55 = .ok (.iload 7, 2) := by decide +kernel
theorem dX8_line_57 : decode cX8_line 57 = .ok (.iconst 3, 1) := by decide +kernel
theorem dX8_line_58 : decode cX8_line 58 = .ok (.iadd, 1) := by decide +kernel
theorem dX8_line_59 : decode cX8_line 59 = .ok (.lload 5, 2) := by decide +kernel
theorem dX8_line_61 : decode cX8_line 61 = .ok (.lastore, 1) := by decide +kernel
theorem dX8_line_62 : decode cX8_line 62 = .ok (.aload_n 0, 1) := by decide +kernel
theorem dX8_line_63 : decode cX8_line 63 = .ok (.getfield 167, 3) := by decide +kernel
theorem dX8_line_66 : decode cX8_line 66 = .ok (.aload_n 0, 1) := by decide +kernel
theorem dX8_line_67 : decode cX8_line 67 = .ok (.getfield 206, 3) := by decide +kernel
theorem dX8_line_70 : decode cX8_line 70 = .ok (.dup2, 1) := by decide +kernel
theorem dX8_line_71 : decode cX8_line 71 = .ok (.iaload, 1) := by decide +kernel
theorem dX8_line_72 : decode cX8_line 72 = .ok (.iconst 1, 1) := by decide +kernel
theorem dX8_line_73 : decode cX8_line 73 = .ok (.iadd, 1) := by decide +kernel
theorem dX8_line_74 : decode cX8_line 74 = .ok (.iastore, 1) := by decide +kernel
theorem dX8_line_75 : decode cX8_line 75 = .ok (.return_, 1) := by decide +kernel
theorem dX8_close_0 : decode cX8_close 0 = .ok (.iload_n 1, 1) := by decide +kernel
theorem dX8_close_1 : decode cX8_close 1 = .ok (.invokestatic 7, 3) := by decide +kernel
theorem dX8_close_4 : decode cX8_close 4 = .ok (.ifCond .ne 6, 3) := by decide +kernel
theorem dX8_close_7 : decode cX8_close 7 = .ok (.bipush (-2), 2) := by decide +kernel
theorem dX8_close_9 : decode cX8_close 9 = .ok (.ireturn, 1) := by decide +kernel
theorem dX8_close_10 : decode cX8_close 10 = .ok (.aload_n 0, 1) := by decide +kernel
theorem dX8_close_11 : decode cX8_close 11 = .ok (.getfield 49, 3) := by decide +kernel
theorem dX8_close_14 : decode cX8_close 14 = .ok (.iload_n 1, 1) := by decide +kernel
theorem dX8_close_15 : decode cX8_close 15 = .ok (.iaload, 1) := by decide +kernel
theorem dX8_close_16 : decode cX8_close 16 = .ok (.istore_n 2, 1) := by decide +kernel
theorem dX8_close_17 : decode cX8_close 17 = .ok (.aload_n 0, 1) := by decide +kernel
theorem dX8_close_18 : decode cX8_close 18 = .ok (.getfield 24, 3) := by decide +kernel
theorem dX8_close_21 : decode cX8_close 21 = .ok (.sipush 1000, 3) := by decide +kernel
theorem dX8_close_24 : decode cX8_close 24 = .ok (.iload_n 2, 1) := by decide +kernel
theorem dX8_close_25 : decode cX8_close 25 = .ok (.imul, 1) := by decide +kernel
theorem dX8_close_26 : decode cX8_close 26 = .ok (.sipush 999, 3) := by decide +kernel
theorem dX8_close_29 : decode cX8_close 29 = .ok (.iadd, 1) := by decide +kernel
theorem dX8_close_30 : decode cX8_close 30 = .ok (.if_icmp .gt 6, 3) := by decide +kernel
theorem dX8_close_33 : decode cX8_close 33 = .ok (.bipush (-4), 2) := by decide +kernel
theorem dX8_close_35 : decode cX8_close 35 = .ok (.ireturn, 1) := by decide +kernel
theorem dX8_close_36 : decode cX8_close 36 = .ok (.aload_n 0, 1) := by decide +kernel
theorem dX8_close_37 : decode cX8_close 37 = .ok (.getfield 206, 3) := by decide +kernel
theorem dX8_close_40 : decode cX8_close 40 = .ok (.bipush 60, 2) := by decide +kernel
theorem dX8_close_42 : decode cX8_close 42 = .ok (.if_icmp .ne 6, 3) := by decide +kernel
theorem dX8_close_45 : decode cX8_close 45 = .ok (.bipush (-3), 2) := by decide +kernel
theorem dX8_close_47 : decode cX8_close 47 = .ok (.ireturn, 1) := by decide +kernel
theorem dX8_close_48 : decode cX8_close 48 = .ok (.aload_n 0, 1) := by decide +kernel
theorem dX8_close_49 : decode cX8_close 49 = .ok (.getfield 161, 3) := by decide +kernel
theorem dX8_close_52 : decode cX8_close 52 = .ok (.aload_n 0, 1) := by decide +kernel
theorem dX8_close_53 : decode cX8_close 53 = .ok (.getfield 206, 3) := by decide +kernel
theorem dX8_close_56 : decode cX8_close 56 = .ok (.iload_n 1, 1) := by decide +kernel
theorem dX8_close_57 : decode cX8_close 57 = .ok (.iastore, 1) := by decide +kernel
theorem dX8_close_58 : decode cX8_close 58 = .ok (.aload_n 0, 1) := by decide +kernel
theorem dX8_close_59 : decode cX8_close 59 = .ok (.getfield 164, 3) := by decide +kernel
theorem dX8_close_62 : decode cX8_close 62 = .ok (.aload_n 0, 1) := by decide +kernel
theorem dX8_close_63 : decode cX8_close 63 = .ok (.getfield 206, 3) := by decide +kernel
theorem dX8_close_66 : decode cX8_close 66 = .ok (.iload_n 2, 1) := by decide +kernel
theorem dX8_close_67 : decode cX8_close 67 = .ok (.iastore, 1) := by decide +kernel
theorem dX8_close_68 : decode cX8_close 68 = .ok (.aload_n 0, 1) := by decide +kernel
theorem dX8_close_69 : decode cX8_close 69 = .ok (.getfield 167, 3) := by decide +kernel
theorem dX8_close_72 : decode cX8_close 72 = .ok (.aload_n 0, 1) := by decide +kernel
theorem dX8_close_73 : decode cX8_close 73 = .ok (.getfield 206, 3) := by decide +kernel
theorem dX8_close_76 : decode cX8_close 76 = .ok (.iconst 0, 1) := by decide +kernel
theorem dX8_close_77 : decode cX8_close 77 = .ok (.iastore, 1) := by decide +kernel
theorem dX8_close_78 : decode cX8_close 78 = .ok (.lconst 0, 1) := by decide +kernel
theorem dX8_close_79 : decode cX8_close 79 = .ok (.lstore_n 3, 1) := by decide +kernel
theorem dX8_close_80 : decode cX8_close 80 = .ok (.iconst 0, 1) := by decide +kernel
theorem dX8_close_81 : decode cX8_close 81 = .ok (.istore 5, 2) := by decide +kernel
theorem dX8_close_83 : decode cX8_close 83 = .ok (.iload 5, 2) := by decide +kernel
theorem dX8_close_85 : decode cX8_close 85 = .ok (.iconst 4, 1) := by decide +kernel
theorem dX8_close_86 : decode cX8_close 86 = .ok (.if_icmp .ge 90, 3) := by decide +kernel
theorem dX8_close_89 : decode cX8_close 89 = .ok (.aload_n 0, 1) := by decide +kernel
theorem dX8_close_90 : decode cX8_close 90 = .ok (.getfield 131, 3) := by decide +kernel
theorem dX8_close_93 : decode cX8_close 93 = .ok (.iload_n 1, 1) := by decide +kernel
theorem dX8_close_94 : decode cX8_close 94 = .ok (.iload 5, 2) := by decide +kernel
theorem dX8_close_96 : decode cX8_close 96 = .ok (.invokestatic 174, 3) := by decide +kernel
theorem dX8_close_99 : decode cX8_close 99 = .ok (.aload_n 0, 1) := by decide +kernel
theorem dX8_close_100 : decode cX8_close 100 = .ok (.getfield 131, 3) := by decide +kernel
theorem dX8_close_103 : decode cX8_close 103 = .ok (.bipush 18, 2) := by decide +kernel
theorem dX8_close_105 : decode cX8_close 105 = .ok (.bipush 24, 2) := by decide +kernel
theorem dX8_close_107 : decode cX8_close 107 = .ok (.iconst 4, 1) := by decide +kernel
theorem dX8_close_108 : decode cX8_close 108 = .ok (.aload_n 0, 1) := by decide +kernel
theorem dX8_close_109 : decode cX8_close 109 = .ok (.getfield 206, 3) := by decide +kernel
theorem dX8_close_112 : decode cX8_close 112 = .ok (.imul, 1) := by decide +kernel
theorem dX8_close_113 : decode cX8_close 113 = .ok (.iadd, 1) := by decide +kernel
theorem dX8_close_114 : decode cX8_close 114 = .ok (.iload 5, 2) := by decide +kernel
theorem dX8_close_116 : decode cX8_close 116 = .ok (.iadd, 1) := by decide +kernel
theorem dX8_close_117 : decode cX8_close 117 = .ok (.imul, 1) := by decide +kernel
theorem dX8_close_118 : decode cX8_close 118 = .ok (.bipush 18, 2) := by decide +kernel
theorem dX8_close_120 : decode cX8_close 120 = .ok (.invokestatic 209, 3) := by decide +kernel
theorem dX8_close_123 : decode cX8_close 123 = .ok (.aload_n 0, 1) := by decide +kernel
theorem dX8_close_124 : decode cX8_close 124 = .ok (.iload_n 1, 1) := by decide +kernel
theorem dX8_close_125 : decode cX8_close 125 = .ok (.iload 5, 2) := by decide +kernel
theorem dX8_close_127 : decode cX8_close 127 = .ok (.iload_n 2, 1) := by decide +kernel
theorem dX8_close_128 : decode cX8_close 128 = .ok (.invokevirtual 193, 3) := by decide +kernel
theorem dX8_close_131 : decode cX8_close 131 = .ok (.lstore 6, 2) := by decide +kernel
theorem dX8_close_133 : decode cX8_close 133 = .ok (.lload 6, 2) := by decide +kernel
theorem dX8_close_135 : decode cX8_close 135 = .ok (.lconst 0, 1) := by decide +kernel
theorem dX8_close_136 : decode cX8_close 136 = .ok (.lcmp, 1) := by decide +kernel
theorem dX8_close_137 : decode cX8_close 137 = .ok (.ifCond .le 33, 3) := by decide +kernel
theorem dX8_close_140 : decode cX8_close 140 = .ok (.aload_n 0, 1) := by decide +kernel
theorem dX8_close_141 : decode cX8_close 141 = .ok (.iload_n 1, 1) := by decide +kernel
theorem dX8_close_142 : decode cX8_close 142 = .ok (.iload 5, 2) := by decide +kernel
theorem dX8_close_144 : decode cX8_close 144 = .ok (.invokestatic 174, 3) := by decide +kernel
theorem dX8_close_147 : decode cX8_close 147 = .ok (.lload 6, 2) := by decide +kernel
theorem dX8_close_149 : decode cX8_close 149 = .ok (.invokevirtual 179, 3) := by decide +kernel
theorem dX8_close_152 : decode cX8_close 152 = .ok (.lstore 8, 2) := by decide +kernel
theorem dX8_close_154 : decode cX8_close 154 = .ok (.aload_n 0, 1) := by decide +kernel
theorem dX8_close_155 : decode cX8_close 155 = .ok (.iconst 0, 1) := by decide +kernel
theorem dX8_close_156 : decode cX8_close 156 = .ok (.iload 5, 2) := by decide +kernel
theorem dX8_close_158 : decode cX8_close 158 = .ok (.lload 6, 2) := by decide +kernel
theorem dX8_close_160 : decode cX8_close 160 = .ok (.lload 8, 2) := by decide +kernel
theorem dX8_close_162 : decode cX8_close 162 = .ok (.invokevirtual 215, 3) := by decide +kernel
theorem dX8_close_165 : decode cX8_close 165 = .ok (.lload_n 3, 1) := by decide +kernel
theorem dX8_close_166 : decode cX8_close 166 = .ok (.lload 8, 2) := by decide +kernel
theorem dX8_close_168 : decode cX8_close 168 = .ok (.ladd, 1) := by decide +kernel
theorem dX8_close_169 : decode cX8_close 169 = .ok (.lstore_n 3, 1) := by decide +kernel
theorem dX8_close_170 : decode cX8_close 170 = .ok (.iinc 5 1, 3) := by decide +kernel
theorem dX8_close_173 : decode cX8_close 173 = .ok (.goto (-90), 3) := by decide +kernel
theorem dX8_close_176 : decode cX8_close 176 = .ok (.iconst 0, 1) := by decide +kernel
theorem dX8_close_177 : decode cX8_close 177 = .ok (.istore 5, 2) := by decide +kernel
theorem dX8_close_179 : decode cX8_close 179 = .ok (.iload 5, 2) := by decide +kernel
theorem dX8_close_181 : decode cX8_close 181 = .ok (.iconst 4, 1) := by decide +kernel
theorem dX8_close_182 : decode cX8_close 182 = .ok (.if_icmp .ge 82, 3) := by decide +kernel
theorem dX8_close_185 : decode cX8_close 185 = .ok (.iconst 4, 1) := by decide +kernel
theorem dX8_close_186 : decode cX8_close 186 = .ok (.iload_n 1, 1) := by decide +kernel
theorem dX8_close_187 : decode cX8_close 187 = .ok (.imul, 1) := by decide +kernel
theorem dX8_close_188 : decode cX8_close 188 = .ok (.iload 5, 2) := by decide +kernel
theorem dX8_close_190 : decode cX8_close 190 = .ok (.iadd, 1) := by decide +kernel
theorem dX8_close_191 : decode cX8_close 191 = .ok (.istore 6, 2) := by decide +kernel
theorem dX8_close_193 : decode cX8_close 193 = .ok (.aload_n 0, 1) := by decide +kernel
theorem dX8_close_194 : decode cX8_close 194 = .ok (.getfield 158, 3) := by decide +kernel
theorem dX8_close_197 : decode cX8_close 197 = .ok (.iload 6, 2) := by decide +kernel
theorem dX8_close_199 : decode cX8_close 199 = .ok (.baload, 1) := by decide +kernel
theorem dX8_close_200 : decode cX8_close 200 = .ok (.ifCond .eq 58, 3) := by decide +kernel
theorem dX8_close_203 : decode cX8_close 203 = .ok (.aload_n 0, 1) := by decide +kernel
theorem dX8_close_204 : decode cX8_close 204 = .ok (.iconst 1, 1) := by decide +kernel
theorem dX8_close_205 : decode cX8_close 205 = .ok (.iload 5, 2) := by decide +kernel
theorem dX8_close_207 : decode cX8_close 207 = .ok (.aload_n 0, 1) := by decide +kernel
theorem dX8_close_208 : decode cX8_close 208 = .ok (.getfield 152, 3) := by decide +kernel
theorem dX8_close_211 : decode cX8_close 211 = .ok (.iload 6, 2) := by decide +kernel
theorem dX8_close_213 : decode cX8_close 213 = .ok (.laload, 1) := by decide +kernel
theorem dX8_close_214 : decode cX8_close 214 = .ok (.aload_n 0, 1) := by decide +kernel
theorem dX8_close_215 : decode cX8_close 215 = .ok (.getfield 155, 3) := by decide +kernel
theorem dX8_close_218 : decode cX8_close 218 = .ok (.iload 6, 2) := by decide +kernel
theorem dX8_close_220 : decode cX8_close 220 = .ok (.laload, 1) := by decide +kernel
theorem dX8_close_221 : decode cX8_close 221 = .ok (.invokevirtual 215, 3) := by decide +kernel
theorem dX8_close_224 : decode cX8_close 224 = .ok (.lload_n 3, 1) := by decide +kernel
theorem dX8_close_225 : decode cX8_close 225 = .ok (.aload_n 0, 1) := by decide +kernel
theorem dX8_close_226 : decode cX8_close 226 = .ok (.getfield 155, 3) := by decide +kernel
theorem dX8_close_229 : decode cX8_close 229 = .ok (.iload 6, 2) := by decide +kernel
theorem dX8_close_231 : decode cX8_close 231 = .ok (.laload, 1) := by decide +kernel
theorem dX8_close_232 : decode cX8_close 232 = .ok (.ladd, 1) := by decide +kernel
theorem dX8_close_233 : decode cX8_close 233 = .ok (.lstore_n 3, 1) := by decide +kernel
theorem dX8_close_234 : decode cX8_close 234 = .ok (.aload_n 0, 1) := by decide +kernel
theorem dX8_close_235 : decode cX8_close 235 = .ok (.getfield 158, 3) := by decide +kernel
theorem dX8_close_238 : decode cX8_close 238 = .ok (.iload 6, 2) := by decide +kernel
theorem dX8_close_240 : decode cX8_close 240 = .ok (.iconst 0, 1) := by decide +kernel
theorem dX8_close_241 : decode cX8_close 241 = .ok (.bastore, 1) := by decide +kernel
theorem dX8_close_242 : decode cX8_close 242 = .ok (.aload_n 0, 1) := by decide +kernel
theorem dX8_close_243 : decode cX8_close 243 = .ok (.getfield 152, 3) := by decide +kernel
theorem dX8_close_246 : decode cX8_close 246 = .ok (.iload 6, 2) := by decide +kernel
theorem dX8_close_248 : decode cX8_close 248 = .ok (.lconst 0, 1) := by decide +kernel
theorem dX8_close_249 : decode cX8_close 249 = .ok (.lastore, 1) := by decide +kernel
theorem dX8_close_250 : decode cX8_close 250 = .ok (.aload_n 0, 1) := by decide +kernel
theorem dX8_close_251 : decode cX8_close 251 = .ok (.getfield 155, 3) := by decide +kernel
theorem dX8_close_254 : decode cX8_close 254 = .ok (.iload 6, 2) := by decide +kernel
theorem dX8_close_256 : decode cX8_close 256 = .ok (.lconst 0, 1) := by decide +kernel
theorem dX8_close_257 : decode cX8_close 257 = .ok (.lastore, 1) := by decide +kernel
theorem dX8_close_258 : decode cX8_close 258 = .ok (.iinc 5 1, 3) := by decide +kernel
theorem dX8_close_261 : decode cX8_close 261 = .ok (.goto (-82), 3) := by decide +kernel
theorem dX8_close_264 : decode cX8_close 264 = .ok (.lload_n 3, 1) := by decide +kernel
theorem dX8_close_265 : decode cX8_close 265 = .ok (.aload_n 0, 1) := by decide +kernel
theorem dX8_close_266 : decode cX8_close 266 = .ok (.getfield 134, 3) := by decide +kernel
theorem dX8_close_269 : decode cX8_close 269 = .ok (.iload_n 1, 1) := by decide +kernel
theorem dX8_close_270 : decode cX8_close 270 = .ok (.iaload, 1) := by decide +kernel
theorem dX8_close_271 : decode cX8_close 271 = .ok (.invokestatic 219, 3) := by decide +kernel
theorem dX8_close_274 : decode cX8_close 274 = .ok (.lstore 5, 2) := by decide +kernel
theorem dX8_close_276 : decode cX8_close 276 = .ok (.lload 5, 2) := by decide +kernel
theorem dX8_close_278 : decode cX8_close 278 = .ok (.lconst 0, 1) := by decide +kernel
theorem dX8_close_279 : decode cX8_close 279 = .ok (.lcmp, 1) := by decide +kernel
theorem dX8_close_280 : decode cX8_close 280 = .ok (.ifCond .eq 18, 3) := by decide +kernel
theorem dX8_close_283 : decode cX8_close 283 = .ok (.aload_n 0, 1) := by decide +kernel
theorem dX8_close_284 : decode cX8_close 284 = .ok (.iconst 2, 1) := by decide +kernel
theorem dX8_close_285 : decode cX8_close 285 = .ok (.iconst (-1), 1) := by decide +kernel
theorem dX8_close_286 : decode cX8_close 286 = .ok (.lconst 0, 1) := by decide +kernel
theorem dX8_close_287 : decode cX8_close 287 = .ok (.lload 5, 2) := by decide +kernel
theorem dX8_close_289 : decode cX8_close 289 = .ok (.lneg, 1) := by decide +kernel
theorem dX8_close_290 : decode cX8_close 290 = .ok (.invokevirtual 215, 3) := by decide +kernel
theorem dX8_close_293 : decode cX8_close 293 = .ok (.lload_n 3, 1) := by decide +kernel
theorem dX8_close_294 : decode cX8_close 294 = .ok (.lload 5, 2) := by decide +kernel
theorem dX8_close_296 : decode cX8_close 296 = .ok (.lsub, 1) := by decide +kernel
theorem dX8_close_297 : decode cX8_close 297 = .ok (.lstore_n 3, 1) := by decide +kernel
theorem dX8_close_298 : decode cX8_close 298 = .ok (.lload_n 3, 1) := by decide +kernel
theorem dX8_close_299 : decode cX8_close 299 = .ok (.aload_n 0, 1) := by decide +kernel
theorem dX8_close_300 : decode cX8_close 300 = .ok (.getfield 137, 3) := by decide +kernel
theorem dX8_close_303 : decode cX8_close 303 = .ok (.iload_n 1, 1) := by decide +kernel
theorem dX8_close_304 : decode cX8_close 304 = .ok (.laload, 1) := by decide +kernel
theorem dX8_close_305 : decode cX8_close 305 = .ok (.lcmp, 1) := by decide +kernel
theorem dX8_close_306 : decode cX8_close 306 = .ok (.ifCond .ge 25, 3) := by decide +kernel
theorem dX8_close_309 : decode cX8_close 309 = .ok (.aload_n 0, 1) := by decide +kernel
theorem dX8_close_310 : decode cX8_close 310 = .ok (.iconst 3, 1) := by decide +kernel
theorem dX8_close_311 : decode cX8_close 311 = .ok (.iconst (-1), 1) := by decide +kernel
theorem dX8_close_312 : decode cX8_close 312 = .ok (.lconst 0, 1) := by decide +kernel
theorem dX8_close_313 : decode cX8_close 313 = .ok (.aload_n 0, 1) := by decide +kernel
theorem dX8_close_314 : decode cX8_close 314 = .ok (.getfield 137, 3) := by decide +kernel
theorem dX8_close_317 : decode cX8_close 317 = .ok (.iload_n 1, 1) := by decide +kernel
theorem dX8_close_318 : decode cX8_close 318 = .ok (.laload, 1) := by decide +kernel
theorem dX8_close_319 : decode cX8_close 319 = .ok (.lload_n 3, 1) := by decide +kernel
theorem dX8_close_320 : decode cX8_close 320 = .ok (.lsub, 1) := by decide +kernel
theorem dX8_close_321 : decode cX8_close 321 = .ok (.invokevirtual 215, 3) := by decide +kernel
theorem dX8_close_324 : decode cX8_close 324 = .ok (.aload_n 0, 1) := by decide +kernel
theorem dX8_close_325 : decode cX8_close 325 = .ok (.getfield 137, 3) := by decide +kernel
theorem dX8_close_328 : decode cX8_close 328 = .ok (.iload_n 1, 1) := by decide +kernel
theorem dX8_close_329 : decode cX8_close 329 = .ok (.laload, 1) := by decide +kernel
theorem dX8_close_330 : decode cX8_close 330 = .ok (.lstore_n 3, 1) := by decide +kernel
theorem dX8_close_331 : decode cX8_close 331 = .ok (.lload_n 3, 1) := by decide +kernel
theorem dX8_close_332 : decode cX8_close 332 = .ok (.aload_n 0, 1) := by decide +kernel
theorem dX8_close_333 : decode cX8_close 333 = .ok (.getfield 140, 3) := by decide +kernel
theorem dX8_close_336 : decode cX8_close 336 = .ok (.iload_n 1, 1) := by decide +kernel
theorem dX8_close_337 : decode cX8_close 337 = .ok (.iaload, 1) := by decide +kernel
theorem dX8_close_338 : decode cX8_close 338 = .ok (.invokestatic 219, 3) := by decide +kernel
theorem dX8_close_341 : decode cX8_close 341 = .ok (.lstore 7, 2) := by decide +kernel
theorem dX8_close_343 : decode cX8_close 343 = .ok (.lload 7, 2) := by decide +kernel
theorem dX8_close_345 : decode cX8_close 345 = .ok (.lconst 0, 1) := by decide +kernel
theorem dX8_close_346 : decode cX8_close 346 = .ok (.lcmp, 1) := by decide +kernel
theorem dX8_close_347 : decode cX8_close 347 = .ok (.ifCond .eq 17, 3) := by decide +kernel
theorem dX8_close_350 : decode cX8_close 350 = .ok (.aload_n 0, 1) := by decide +kernel
theorem dX8_close_351 : decode cX8_close 351 = .ok (.iconst 4, 1) := by decide +kernel
theorem dX8_close_352 : decode cX8_close 352 = .ok (.iconst (-1), 1) := by decide +kernel
theorem dX8_close_353 : decode cX8_close 353 = .ok (.lconst 0, 1) := by decide +kernel
theorem dX8_close_354 : decode cX8_close 354 = .ok (.lload 7, 2) := by decide +kernel
theorem dX8_close_356 : decode cX8_close 356 = .ok (.invokevirtual 215, 3) := by decide +kernel
theorem dX8_close_359 : decode cX8_close 359 = .ok (.lload_n 3, 1) := by decide +kernel
theorem dX8_close_360 : decode cX8_close 360 = .ok (.lload 7, 2) := by decide +kernel
theorem dX8_close_362 : decode cX8_close 362 = .ok (.ladd, 1) := by decide +kernel
theorem dX8_close_363 : decode cX8_close 363 = .ok (.lstore_n 3, 1) := by decide +kernel
theorem dX8_close_364 : decode cX8_close 364 = .ok (.aload_n 0, 1) := by decide +kernel
theorem dX8_close_365 : decode cX8_close 365 = .ok (.iload_n 1, 1) := by decide +kernel
theorem dX8_close_366 : decode cX8_close 366 = .ok (.iload_n 2, 1) := by decide +kernel
theorem dX8_close_367 : decode cX8_close 367 = .ok (.lload_n 3, 1) := by decide +kernel
theorem dX8_close_368 : decode cX8_close 368 = .ok (.invokevirtual 223, 3) := by decide +kernel
theorem dX8_close_371 : decode cX8_close 371 = .ok (.aload_n 0, 1) := by decide +kernel
theorem dX8_close_372 : decode cX8_close 372 = .ok (.getfield 49, 3) := by decide +kernel
theorem dX8_close_375 : decode cX8_close 375 = .ok (.iload_n 1, 1) := by decide +kernel
theorem dX8_close_376 : decode cX8_close 376 = .ok (.dup2, 1) := by decide +kernel
theorem dX8_close_377 : decode cX8_close 377 = .ok (.iaload, 1) := by decide +kernel
theorem dX8_close_378 : decode cX8_close 378 = .ok (.iconst 1, 1) := by decide +kernel
theorem dX8_close_379 : decode cX8_close 379 = .ok (.iadd, 1) := by decide +kernel
theorem dX8_close_380 : decode cX8_close 380 = .ok (.iastore, 1) := by decide +kernel
theorem dX8_close_381 : decode cX8_close 381 = .ok (.aload_n 0, 1) := by decide +kernel
theorem dX8_close_382 : decode cX8_close 382 = .ok (.dup, 1) := by decide +kernel
theorem dX8_close_383 : decode cX8_close 383 = .ok (.getfield 206, 3) := by decide +kernel
theorem dX8_close_386 : decode cX8_close 386 = .ok (.iconst 1, 1) := by decide +kernel
theorem dX8_close_387 : decode cX8_close 387 = .ok (.iadd, 1) := by decide +kernel
theorem dX8_close_388 : decode cX8_close 388 = .ok (.putfield 206, 3) := by decide +kernel
theorem dX8_close_391 : decode cX8_close 391 = .ok (.aload_n 0, 1) := by decide +kernel
theorem dX8_close_392 : decode cX8_close 392 = .ok (.getfield 206, 3) := by decide +kernel
theorem dX8_close_395 : decode cX8_close 395 = .ok (.iconst 1, 1) := by decide +kernel
theorem dX8_close_396 : decode cX8_close 396 = .ok (.isub, 1) := by decide +kernel
theorem dX8_close_397 : decode cX8_close 397 = .ok (.ireturn, 1) := by decide +kernel
theorem dX8_useCredits_0 : decode cX8_useCredits 0 = .ok (.lload_n 3, 1) := by decide +kernel
theorem dX8_useCredits_1 : decode cX8_useCredits 1 = .ok (.lstore 5, 2) := by decide +kernel
theorem dX8_useCredits_3 : decode cX8_useCredits 3 = .ok (.lload 5, 2) := by decide +kernel
theorem dX8_useCredits_5 : decode cX8_useCredits 5 = .ok (.lconst 0, 1) := by decide +kernel
theorem dX8_useCredits_6 : decode cX8_useCredits 6 = .ok (.lcmp, 1) := by decide +kernel
theorem dX8_useCredits_7 : decode cX8_useCredits 7 = .ok (.ifCond .le 7, 3) := by decide +kernel
theorem dX8_useCredits_10 : decode cX8_useCredits 10 = .ok (.iconst 1, 1) := by decide +kernel
theorem dX8_useCredits_11 : decode cX8_useCredits 11 = .ok (.goto 4, 3) := by decide +kernel
theorem dX8_useCredits_14 : decode cX8_useCredits 14 = .ok (.iconst 0, 1) := by decide +kernel
theorem dX8_useCredits_15 : decode cX8_useCredits 15 = .ok (.istore 7, 2) := by decide +kernel
theorem dX8_useCredits_17 : decode cX8_useCredits 17 = .ok (.iload 7, 2) := by decide +kernel
theorem dX8_useCredits_19 : decode cX8_useCredits 19 = .ok (.ifCond .eq 156, 3) := by decide +kernel
theorem dX8_useCredits_22 : decode cX8_useCredits 22 = .ok (.iconst (-1), 1) := by decide +kernel
theorem dX8_useCredits_23 : decode cX8_useCredits 23 = .ok (.istore 8, 2) := by decide +kernel
theorem dX8_useCredits_25 : decode cX8_useCredits 25 = .ok (.bipush 40, 2) := by decide +kernel
theorem dX8_useCredits_27 : decode cX8_useCredits 27 = .ok (.iload_n 1, 1) := by decide +kernel
theorem dX8_useCredits_28 : decode cX8_useCredits 28 = .ok (.imul, 1) := by decide +kernel
theorem dX8_useCredits_29 : decode cX8_useCredits 29 = .ok (.istore 9, 2) := by decide +kernel
theorem dX8_useCredits_31 : decode cX8_useCredits 31 = .ok (.iload 9, 2) := by decide +kernel
theorem dX8_useCredits_33 : decode cX8_useCredits 33 = .ok (.bipush 40, 2) := by decide +kernel
theorem dX8_useCredits_35 : decode cX8_useCredits 35 = .ok (.iload_n 1, 1) := by decide +kernel
theorem dX8_useCredits_36 : decode cX8_useCredits 36 = .ok (.imul, 1) := by decide +kernel
theorem dX8_useCredits_37 : decode cX8_useCredits 37 = .ok (.aload_n 0, 1) := by decide +kernel
theorem dX8_useCredits_38 : decode cX8_useCredits 38 = .ok (.getfield 143, 3) := by decide +kernel
theorem dX8_useCredits_41 : decode cX8_useCredits 41 = .ok (.iload_n 1, 1) := by decide +kernel
theorem dX8_useCredits_42 : decode cX8_useCredits 42 = .ok (.iaload, 1) := by decide +kernel
theorem dX8_useCredits_43 : decode cX8_useCredits 43 = .ok (.iadd, 1) := by decide +kernel
theorem dX8_useCredits_44 : decode cX8_useCredits 44 = .ok (.if_icmp .ge 59, 3) := by decide +kernel
theorem dX8_useCredits_47 : decode cX8_useCredits 47 = .ok (.aload_n 0, 1) := by decide +kernel
theorem dX8_useCredits_48 : decode cX8_useCredits 48 = .ok (.getfield 149, 3) := by decide +kernel
theorem dX8_useCredits_51 : decode cX8_useCredits 51 = .ok (.iload 9, 2) := by decide +kernel
theorem dX8_useCredits_53 : decode cX8_useCredits 53 = .ok (.iaload, 1) := by decide +kernel
theorem dX8_useCredits_54 : decode cX8_useCredits 54 = .ok (.iload_n 2, 1) := by decide +kernel
theorem dX8_useCredits_55 : decode cX8_useCredits 55 = .ok (.if_icmp .lt 42, 3) := by decide +kernel
theorem dX8_useCredits_58 : decode cX8_useCredits 58 = .ok (.aload_n 0, 1) := by decide +kernel
theorem dX8_useCredits_59 : decode cX8_useCredits 59 = .ok (.getfield 146, 3) := by decide +kernel
theorem dX8_useCredits_62 : decode cX8_useCredits 62 = .ok (.iload 9, 2) := by decide +kernel
theorem dX8_useCredits_64 : decode cX8_useCredits 64 = .ok (.laload, 1) := by decide +kernel
theorem dX8_useCredits_65 : decode cX8_useCredits 65 = .ok (.lconst 0, 1) := by decide +kernel
theorem dX8_useCredits_66 : decode cX8_useCredits 66 = .ok (.lcmp, 1) := by decide +kernel
theorem dX8_useCredits_67 : decode cX8_useCredits 67 = .ok (.ifCond .le 30, 3) := by decide +kernel
theorem dX8_useCredits_70 : decode cX8_useCredits 70 = .ok (.iload 8, 2) := by decide +kernel
theorem dX8_useCredits_72 : decode cX8_useCredits 72 = .ok (.iconst (-1), 1) := by decide +kernel
theorem dX8_useCredits_73 : decode cX8_useCredits 73 = .ok (.if_icmp .eq 20, 3) := by decide +kernel
theorem dX8_useCredits_76 : decode cX8_useCredits 76 = .ok (.aload_n 0, 1) := by decide +kernel
theorem dX8_useCredits_77 : decode cX8_useCredits 77 = .ok (.getfield 149, 3) := by decide +kernel
theorem dX8_useCredits_80 : decode cX8_useCredits 80 = .ok (.iload 9, 2) := by decide +kernel
theorem dX8_useCredits_82 : decode cX8_useCredits 82 = .ok (.iaload, 1) := by decide +kernel
theorem dX8_useCredits_83 : decode cX8_useCredits 83 = .ok (.aload_n 0, 1) := by decide +kernel
theorem dX8_useCredits_84 : decode cX8_useCredits 84 = .ok (.getfield 149, 3) := by decide +kernel
theorem dX8_useCredits_87 : decode cX8_useCredits 87 = .ok (.iload 8, 2) := by decide +kernel
theorem dX8_useCredits_89 : decode cX8_useCredits 89 = .ok (.iaload, 1) := by decide +kernel
theorem dX8_useCredits_90 : decode cX8_useCredits 90 = .ok (.if_icmp .ge 7, 3) := by decide +kernel
theorem dX8_useCredits_93 : decode cX8_useCredits 93 = .ok (.iload 9, 2) := by decide +kernel
theorem dX8_useCredits_95 : decode cX8_useCredits 95 = .ok (.istore 8, 2) := by decide +kernel
theorem dX8_useCredits_97 : decode cX8_useCredits 97 = .ok (.iinc 9 1, 3) := by decide +kernel
theorem dX8_useCredits_100 : decode cX8_useCredits 100 = .ok (.goto (-69), 3) := by decide +kernel
theorem dX8_useCredits_103 : decode cX8_useCredits 103 = .ok (.iload 8, 2) := by decide +kernel
theorem dX8_useCredits_105 : decode cX8_useCredits 105 = .ok (.iconst (-1), 1) := by decide +kernel
theorem dX8_useCredits_106 : decode cX8_useCredits 106 = .ok (.if_icmp .eq 46, 3) := by decide +kernel
theorem dX8_useCredits_109 : decode cX8_useCredits 109 = .ok (.lload 5, 2) := by decide +kernel
theorem dX8_useCredits_111 : decode cX8_useCredits 111 = .ok (.aload_n 0, 1) := by decide +kernel
theorem dX8_useCredits_112 : decode cX8_useCredits 112 = .ok (.getfield 146, 3) := by decide +kernel
theorem dX8_useCredits_115 : decode cX8_useCredits 115 = .ok (.iload 8, 2) := by decide +kernel
theorem dX8_useCredits_117 : decode cX8_useCredits 117 = .ok (.laload, 1) := by decide +kernel
theorem dX8_useCredits_118 : decode cX8_useCredits 118 = .ok (.invokestatic 109, 3) := by decide +kernel
theorem dX8_useCredits_121 : decode cX8_useCredits 121 = .ok (.lstore 9, 2) := by decide +kernel
theorem dX8_useCredits_123 : decode cX8_useCredits 123 = .ok (.aload_n 0, 1) := by decide +kernel
theorem dX8_useCredits_124 : decode cX8_useCredits 124 = .ok (.iconst 5, 1) := by decide +kernel
theorem dX8_useCredits_125 : decode cX8_useCredits 125 = .ok (.iconst (-1), 1) := by decide +kernel
theorem dX8_useCredits_126 : decode cX8_useCredits 126 = .ok (.lconst 0, 1) := by decide +kernel
theorem dX8_useCredits_127 : decode cX8_useCredits 127 = .ok (.lload 9, 2) := by decide +kernel
theorem dX8_useCredits_129 : decode cX8_useCredits 129 = .ok (.lneg, 1) := by decide +kernel
theorem dX8_useCredits_130 : decode cX8_useCredits 130 = .ok (.invokevirtual 215, 3) := by decide +kernel
theorem dX8_useCredits_133 : decode cX8_useCredits 133 = .ok (.aload_n 0, 1) := by decide +kernel
theorem dX8_useCredits_134 : decode cX8_useCredits 134 = .ok (.getfield 146, 3) := by decide +kernel
theorem dX8_useCredits_137 : decode cX8_useCredits 137 = .ok (.iload 8, 2) := by decide +kernel
theorem dX8_useCredits_139 : decode cX8_useCredits 139 = .ok (.dup2, 1) := by decide +kernel
theorem dX8_useCredits_140 : decode cX8_useCredits 140 = .ok (.laload, 1) := by decide +kernel
theorem dX8_useCredits_141 : decode cX8_useCredits 141 = .ok (.lload 9, 2) := by decide +kernel
theorem dX8_useCredits_143 : decode cX8_useCredits 143 = .ok (.lsub, 1) := by decide +kernel
theorem dX8_useCredits_144 : decode cX8_useCredits 144 = .ok (.lastore, 1) := by decide +kernel
theorem dX8_useCredits_145 : decode cX8_useCredits 145 = .ok (.lload 5, 2) := by decide +kernel
theorem dX8_useCredits_147 : decode cX8_useCredits 147 = .ok (.lload 9, 2) := by decide +kernel
theorem dX8_useCredits_149 : decode cX8_useCredits 149 = .ok (.lsub, 1) := by decide +kernel
theorem dX8_useCredits_150 : decode cX8_useCredits 150 = .ok (.lstore 5, 2) := by decide +kernel
theorem dX8_useCredits_152 : decode cX8_useCredits 152 = .ok (.iload 8, 2) := by decide +kernel
theorem dX8_useCredits_154 : decode cX8_useCredits 154 = .ok (.iconst (-1), 1) := by decide +kernel
theorem dX8_useCredits_155 : decode cX8_useCredits 155 = .ok (.if_icmp .eq 14, 3) := by decide +kernel
theorem dX8_useCredits_158 : decode cX8_useCredits 158 = .ok (.lload 5, 2) := by decide +kernel
theorem dX8_useCredits_160 : decode cX8_useCredits 160 = .ok (.lconst 0, 1) := by decide +kernel
theorem dX8_useCredits_161 : decode cX8_useCredits 161 = .ok (.lcmp, 1) := by decide +kernel
theorem dX8_useCredits_162 : decode cX8_useCredits 162 = .ok (.ifCond .le 7, 3) := by decide +kernel
theorem dX8_useCredits_165 : decode cX8_useCredits 165 = .ok (.iconst 1, 1) := by decide +kernel
theorem dX8_useCredits_166 : decode cX8_useCredits 166 = .ok (.goto 4, 3) := by decide +kernel
theorem dX8_useCredits_169 : decode cX8_useCredits 169 = .ok (.iconst 0, 1) := by decide +kernel
theorem dX8_useCredits_170 : decode cX8_useCredits 170 = .ok (.istore 7, 2) := by decide +kernel
theorem dX8_useCredits_172 : decode cX8_useCredits 172 = .ok (.goto (-155), 3) := by decide +kernel
theorem dX8_useCredits_175 : decode cX8_useCredits 175 = .ok (.return_, 1) := by decide +kernel
theorem dX8_line__0 : decode cX8_line_ 0 = .ok (.iload_n 1, 1) := by decide +kernel
theorem dX8_line__1 : decode cX8_line_ 1 = .ok (.ifCond .lt 34, 3) := by decide +kernel
theorem dX8_line__4 : decode cX8_line_ 4 = .ok (.iload_n 1, 1) := by decide +kernel
theorem dX8_line__5 : decode cX8_line_ 5 = .ok (.aload_n 0, 1) := by decide +kernel
theorem dX8_line__6 : decode cX8_line_ 6 = .ok (.getfield 206, 3) := by decide +kernel
theorem dX8_line__9 : decode cX8_line_ 9 = .ok (.if_icmp .ge 26, 3) := by decide +kernel
theorem dX8_line__12 : decode cX8_line_ 12 = .ok (.iload_n 2, 1) := by decide +kernel
theorem dX8_line__13 : decode cX8_line_ 13 = .ok (.ifCond .lt 22, 3) := by decide +kernel
theorem dX8_line__16 : decode cX8_line_ 16 = .ok (.iload_n 2, 1) := by decide +kernel
theorem dX8_line__17 : decode cX8_line_ 17 = .ok (.aload_n 0, 1) := by decide +kernel
theorem dX8_line__18 : decode cX8_line_ 18 = .ok (.getfield 167, 3) := by decide +kernel
theorem dX8_line__21 : decode cX8_line_ 21 = .ok (.iload_n 1, 1) := by decide +kernel
theorem dX8_line__22 : decode cX8_line_ 22 = .ok (.iaload, 1) := by decide +kernel
theorem dX8_line__23 : decode cX8_line_ 23 = .ok (.if_icmp .ge 12, 3) := by decide +kernel
theorem dX8_line__26 : decode cX8_line_ 26 = .ok (.iload_n 3, 1) := by decide +kernel
theorem dX8_line__27 : decode cX8_line_ 27 = .ok (.ifCond .lt 8, 3) := by decide +kernel
theorem dX8_line__30 : decode cX8_line_ 30 = .ok (.iload_n 3, 1) := by decide +kernel
theorem dX8_line__31 : decode cX8_line_ 31 = .ok (.iconst 3, 1) := by decide +kernel
theorem dX8_line__32 : decode cX8_line_ 32 = .ok (.if_icmp .le 7, 3) := by decide +kernel
theorem dX8_line__35 : decode cX8_line_ 35 = .ok (.ldc2_w 75, 3) := by decide +kernel
theorem dX8_line__38 : decode cX8_line_ 38 = .ok (.lreturn, 1) := by decide +kernel
theorem dX8_line__39 : decode cX8_line_ 39 = .ok (.aload_n 0, 1) := by decide +kernel
theorem dX8_line__40 : decode cX8_line_ 40 = .ok (.getfield 170, 3) := by decide +kernel
theorem dX8_line__43 : decode cX8_line_ 43 = .ok (.iconst 4, 1) := by decide +kernel
theorem dX8_line__44 : decode cX8_line_ 44 = .ok (.bipush 60, 2) := by decide +kernel
theorem dX8_line__46 : decode cX8_line_ 46 = .ok (.iload_n 1, 1) := by decide +kernel
theorem dX8_line__47 : decode cX8_line_ 47 = .ok (.imul, 1) := by decide +kernel
theorem dX8_line__48 : decode cX8_line_ 48 = .ok (.iload_n 2, 1) := by decide +kernel
theorem dX8_line__49 : decode cX8_line_ 49 = .ok (.iadd, 1) := by decide +kernel
theorem dX8_line__50 : decode cX8_line_ 50 = .ok (.imul, 1) := by decide +kernel
theorem dX8_line__51 : decode cX8_line_ 51 = .ok (.iload_n 3, 1) := by decide +kernel
theorem dX8_line__52 : decode cX8_line_ 52 = .ok (.iadd, 1) := by decide +kernel
theorem dX8_line__53 : decode cX8_line_ 53 = .ok (.laload, 1) := by decide +kernel
theorem dX8_line__54 : decode cX8_line_ 54 = .ok (.lreturn, 1) := by decide +kernel
theorem dX8_invoice_0 : decode cX8_invoice 0 = .ok (.iload_n 1, 1) := by decide +kernel
theorem dX8_invoice_1 : decode cX8_invoice 1 = .ok (.ifCond .lt 11, 3) := by decide +kernel
theorem dX8_invoice_4 : decode cX8_invoice 4 = .ok (.iload_n 1, 1) := by decide +kernel
theorem dX8_invoice_5 : decode cX8_invoice 5 = .ok (.aload_n 0, 1) := by decide +kernel
theorem dX8_invoice_6 : decode cX8_invoice 6 = .ok (.getfield 206, 3) := by decide +kernel
theorem dX8_invoice_9 : decode cX8_invoice 9 = .ok (.if_icmp .lt 7, 3) := by decide +kernel
theorem dX8_invoice_12 : decode cX8_invoice 12 = .ok (.ldc2_w 75, 3) := by decide +kernel
theorem dX8_invoice_15 : decode cX8_invoice 15 = .ok (.lreturn, 1) := by decide +kernel
theorem dX8_invoice_16 : decode cX8_invoice 16 = .ok (.lconst 0, 1) := by decide +kernel
theorem dX8_invoice_17 : decode cX8_invoice 17 = .ok (.lstore_n 3, 1) := by decide +kernel
theorem dX8_invoice_18 : decode cX8_invoice 18 = .ok (.iconst 0, 1) := by decide +kernel
theorem dX8_invoice_19 : decode cX8_invoice 19 = .ok (.istore 5, 2) := by decide +kernel
theorem dX8_invoice_21 : decode cX8_invoice 21 = .ok (.iload 5, 2) := by decide +kernel
theorem dX8_invoice_23 : decode cX8_invoice 23 = .ok (.aload_n 0, 1) := by decide +kernel
theorem dX8_invoice_24 : decode cX8_invoice 24 = .ok (.getfield 167, 3) := by decide +kernel
theorem dX8_invoice_27 : decode cX8_invoice 27 = .ok (.iload_n 1, 1) := by decide +kernel
theorem dX8_invoice_28 : decode cX8_invoice 28 = .ok (.iaload, 1) := by decide +kernel
theorem dX8_invoice_29 : decode cX8_invoice 29 = .ok (.if_icmp .ge 28, 3) := by decide +kernel
theorem dX8_invoice_32 : decode cX8_invoice 32 = .ok (.lload_n 3, 1) := by decide +kernel
theorem dX8_invoice_33 : decode cX8_invoice 33 = .ok (.aload_n 0, 1) := by decide +kernel
theorem dX8_invoice_34 : decode cX8_invoice 34 = .ok (.getfield 170, 3) := by decide +kernel
theorem dX8_invoice_37 : decode cX8_invoice 37 = .ok (.iconst 4, 1) := by decide +kernel
theorem dX8_invoice_38 : decode cX8_invoice 38 = .ok (.bipush 60, 2) := by decide +kernel
theorem dX8_invoice_40 : decode cX8_invoice 40 = .ok (.iload_n 1, 1) := by decide +kernel
theorem dX8_invoice_41 : decode cX8_invoice 41 = .ok (.imul, 1) := by decide +kernel
theorem dX8_invoice_42 : decode cX8_invoice 42 = .ok (.iload 5, 2) := by decide +kernel
theorem dX8_invoice_44 : decode cX8_invoice 44 = .ok (.iadd, 1) := by decide +kernel
theorem dX8_invoice_45 : decode cX8_invoice 45 = .ok (.imul, 1) := by decide +kernel
theorem dX8_invoice_46 : decode cX8_invoice 46 = .ok (.iconst 3, 1) := by decide +kernel
theorem dX8_invoice_47 : decode cX8_invoice 47 = .ok (.iadd, 1) := by decide +kernel
theorem dX8_invoice_48 : decode cX8_invoice 48 = .ok (.laload, 1) := by decide +kernel
theorem dX8_invoice_49 : decode cX8_invoice 49 = .ok (.ladd, 1) := by decide +kernel
theorem dX8_invoice_50 : decode cX8_invoice 50 = .ok (.lstore_n 3, 1) := by decide +kernel
theorem dX8_invoice_51 : decode cX8_invoice 51 = .ok (.iinc 5 1, 3) := by decide +kernel
theorem dX8_invoice_54 : decode cX8_invoice 54 = .ok (.goto (-33), 3) := by decide +kernel
theorem dX8_invoice_57 : decode cX8_invoice 57 = .ok (.iload_n 2, 1) := by decide +kernel
theorem dX8_invoice_58 : decode cX8_invoice 58 = .ok (.tableswitch 56 0 3 #[30, 38, 46, 54], 30) := by decide +kernel
theorem dX8_invoice_88 : decode cX8_invoice 88 = .ok (.aload_n 0, 1) := by decide +kernel
theorem dX8_invoice_89 : decode cX8_invoice 89 = .ok (.getfield 161, 3) := by decide +kernel
theorem dX8_invoice_92 : decode cX8_invoice 92 = .ok (.iload_n 1, 1) := by decide +kernel
theorem dX8_invoice_93 : decode cX8_invoice 93 = .ok (.iaload, 1) := by decide +kernel
theorem dX8_invoice_94 : decode cX8_invoice 94 = .ok (.i2l, 1) := by decide +kernel
theorem dX8_invoice_95 : decode cX8_invoice 95 = .ok (.lreturn, 1) := by decide +kernel
theorem dX8_invoice_96 : decode cX8_invoice 96 = .ok (.aload_n 0, 1) := by decide +kernel
theorem dX8_invoice_97 : decode cX8_invoice 97 = .ok (.getfield 164, 3) := by decide +kernel
theorem dX8_invoice_100 : decode cX8_invoice 100 = .ok (.iload_n 1, 1) := by decide +kernel
theorem dX8_invoice_101 : decode cX8_invoice 101 = .ok (.iaload, 1) := by decide +kernel
theorem dX8_invoice_102 : decode cX8_invoice 102 = .ok (.i2l, 1) := by decide +kernel
theorem dX8_invoice_103 : decode cX8_invoice 103 = .ok (.lreturn, 1) := by decide +kernel
theorem dX8_invoice_104 : decode cX8_invoice 104 = .ok (.aload_n 0, 1) := by decide +kernel
theorem dX8_invoice_105 : decode cX8_invoice 105 = .ok (.getfield 167, 3) := by decide +kernel
theorem dX8_invoice_108 : decode cX8_invoice 108 = .ok (.iload_n 1, 1) := by decide +kernel
theorem dX8_invoice_109 : decode cX8_invoice 109 = .ok (.iaload, 1) := by decide +kernel
theorem dX8_invoice_110 : decode cX8_invoice 110 = .ok (.i2l, 1) := by decide +kernel
theorem dX8_invoice_111 : decode cX8_invoice 111 = .ok (.lreturn, 1) := by decide +kernel
theorem dX8_invoice_112 : decode cX8_invoice 112 = .ok (.lload_n 3, 1) := by decide +kernel
theorem dX8_invoice_113 : decode cX8_invoice 113 = .ok (.lreturn, 1) := by decide +kernel
theorem dX8_invoice_114 : decode cX8_invoice 114 = .ok (.ldc2_w 75, 3) := by decide +kernel
theorem dX8_invoice_117 : decode cX8_invoice 117 = .ok (.lreturn, 1) := by decide +kernel
theorem dX8_count_0 : decode cX8_count 0 = .ok (.iload_n 1, 1) := by decide +kernel
theorem dX8_count_1 : decode cX8_count 1 = .ok (.tableswitch 64 0 4 #[35, 40, 45, 54, 59], 35) := by decide +kernel
theorem dX8_count_36 : decode cX8_count 36 = .ok (.aload_n 0, 1) := by decide +kernel
theorem dX8_count_37 : decode cX8_count 37 = .ok (.getfield 24, 3) := by decide +kernel
theorem dX8_count_40 : decode cX8_count 40 = .ok (.ireturn, 1) := by decide +kernel
theorem dX8_count_41 : decode cX8_count 41 = .ok (.aload_n 0, 1) := by decide +kernel
theorem dX8_count_42 : decode cX8_count 42 = .ok (.getfield 3, 3) := by decide +kernel
theorem dX8_count_45 : decode cX8_count 45 = .ok (.ireturn, 1) := by decide +kernel
theorem dX8_count_46 : decode cX8_count 46 = .ok (.aload_n 0, 1) := by decide +kernel
theorem dX8_count_47 : decode cX8_count 47 = .ok (.invokevirtual 45, 3) := by decide +kernel
theorem dX8_count_50 : decode cX8_count 50 = .ok (.aload_n 0, 1) := by decide +kernel
theorem dX8_count_51 : decode cX8_count 51 = .ok (.getfield 32, 3) := by decide +kernel
theorem dX8_count_54 : decode cX8_count 54 = .ok (.ireturn, 1) := by decide +kernel
theorem dX8_count_55 : decode cX8_count 55 = .ok (.aload_n 0, 1) := by decide +kernel
theorem dX8_count_56 : decode cX8_count 56 = .ok (.invokevirtual 122, 3) := by decide +kernel
theorem dX8_count_59 : decode cX8_count 59 = .ok (.ireturn, 1) := by decide +kernel
theorem dX8_count_60 : decode cX8_count 60 = .ok (.aload_n 0, 1) := by decide +kernel
theorem dX8_count_61 : decode cX8_count 61 = .ok (.getfield 206, 3) := by decide +kernel
theorem dX8_count_64 : decode cX8_count 64 = .ok (.ireturn, 1) := by decide +kernel
theorem dX8_count_65 : decode cX8_count 65 = .ok (.bipush (-2), 2) := by decide +kernel
theorem dX8_count_67 : decode cX8_count 67 = .ok (.ireturn, 1) := by decide +kernel
theorem dX8_closed_0 : decode cX8_closed 0 = .ok (.iload_n 1, 1) := by decide +kernel
theorem dX8_closed_1 : decode cX8_closed 1 = .ok (.invokestatic 7, 3) := by decide +kernel
theorem dX8_closed_4 : decode cX8_closed 4 = .ok (.ifCond .eq 12, 3) := by decide +kernel
theorem dX8_closed_7 : decode cX8_closed 7 = .ok (.aload_n 0, 1) := by decide +kernel
theorem dX8_closed_8 : decode cX8_closed 8 = .ok (.getfield 49, 3) := by decide +kernel
theorem dX8_closed_11 : decode cX8_closed 11 = .ok (.iload_n 1, 1) := by decide +kernel
theorem dX8_closed_12 : decode cX8_closed 12 = .ok (.iaload, 1) := by decide +kernel
theorem dX8_closed_13 : decode cX8_closed 13 = .ok (.goto 5, 3) := by decide +kernel
theorem dX8_closed_16 : decode cX8_closed 16 = .ok (.bipush (-2), 2) := by decide +kernel
theorem dX8_closed_18 : decode cX8_closed 18 = .ok (.ireturn, 1) := by decide +kernel
theorem dJ9_floorDiv_f86c9_0 : decode cJ9_floorDiv_f86c9 0 = .ok (.lload_n 0, 1) := by decide +kernel
theorem dJ9_floorDiv_f86c9_1 : decode cJ9_floorDiv_f86c9 1 = .ok (.lload_n 2, 1) := by decide +kernel
theorem dJ9_floorDiv_f86c9_2 : decode cJ9_floorDiv_f86c9 2 = .ok (.ldiv, 1) := by decide +kernel
theorem dJ9_floorDiv_f86c9_3 : decode cJ9_floorDiv_f86c9 3 = .ok (.lstore 4, 2) := by decide +kernel
theorem dJ9_floorDiv_f86c9_5 : decode cJ9_floorDiv_f86c9 5 = .ok (.lload_n 0, 1) := by decide +kernel
theorem dJ9_floorDiv_f86c9_6 : decode cJ9_floorDiv_f86c9 6 = .ok (.lload_n 2, 1) := by decide +kernel
theorem dJ9_floorDiv_f86c9_7 : decode cJ9_floorDiv_f86c9 7 = .ok (.lxor, 1) := by decide +kernel
theorem dJ9_floorDiv_f86c9_8 : decode cJ9_floorDiv_f86c9 8 = .ok (.lconst 0, 1) := by decide +kernel
theorem dJ9_floorDiv_f86c9_9 : decode cJ9_floorDiv_f86c9 9 = .ok (.lcmp, 1) := by decide +kernel
theorem dJ9_floorDiv_f86c9_10 : decode cJ9_floorDiv_f86c9 10 = .ok (.ifCond .ge 17, 3) := by decide +kernel
theorem dJ9_floorDiv_f86c9_13 : decode cJ9_floorDiv_f86c9 13 = .ok (.lload 4, 2) := by decide +kernel
theorem dJ9_floorDiv_f86c9_15 : decode cJ9_floorDiv_f86c9 15 = .ok (.lload_n 2, 1) := by decide +kernel
theorem dJ9_floorDiv_f86c9_16 : decode cJ9_floorDiv_f86c9 16 = .ok (.lmul, 1) := by decide +kernel
theorem dJ9_floorDiv_f86c9_17 : decode cJ9_floorDiv_f86c9 17 = .ok (.lload_n 0, 1) := by decide +kernel
theorem dJ9_floorDiv_f86c9_18 : decode cJ9_floorDiv_f86c9 18 = .ok (.lcmp, 1) := by decide +kernel
theorem dJ9_floorDiv_f86c9_19 : decode cJ9_floorDiv_f86c9 19 = .ok (.ifCond .eq 8, 3) := by decide +kernel
theorem dJ9_floorDiv_f86c9_22 : decode cJ9_floorDiv_f86c9 22 = .ok (.lload 4, 2) := by decide +kernel
theorem dJ9_floorDiv_f86c9_24 : decode cJ9_floorDiv_f86c9 24 = .ok (.lconst 1, 1) := by decide +kernel
theorem dJ9_floorDiv_f86c9_25 : decode cJ9_floorDiv_f86c9 25 = .ok (.lsub, 1) := by decide +kernel
theorem dJ9_floorDiv_f86c9_26 : decode cJ9_floorDiv_f86c9 26 = .ok (.lreturn, 1) := by decide +kernel
theorem dJ9_floorDiv_f86c9_27 : decode cJ9_floorDiv_f86c9 27 = .ok (.lload 4, 2) := by decide +kernel
theorem dJ9_floorDiv_f86c9_29 : decode cJ9_floorDiv_f86c9 29 = .ok (.lreturn, 1) := by decide +kernel
theorem dJ9_floorMod_f86c9_0 : decode cJ9_floorMod_f86c9 0 = .ok (.lload_n 0, 1) := by decide +kernel
theorem dJ9_floorMod_f86c9_1 : decode cJ9_floorMod_f86c9 1 = .ok (.lload_n 2, 1) := by decide +kernel
theorem dJ9_floorMod_f86c9_2 : decode cJ9_floorMod_f86c9 2 = .ok (.lrem, 1) := by decide +kernel
theorem dJ9_floorMod_f86c9_3 : decode cJ9_floorMod_f86c9 3 = .ok (.lstore 4, 2) := by decide +kernel
theorem dJ9_floorMod_f86c9_5 : decode cJ9_floorMod_f86c9 5 = .ok (.lload_n 0, 1) := by decide +kernel
theorem dJ9_floorMod_f86c9_6 : decode cJ9_floorMod_f86c9 6 = .ok (.lload_n 2, 1) := by decide +kernel
theorem dJ9_floorMod_f86c9_7 : decode cJ9_floorMod_f86c9 7 = .ok (.lxor, 1) := by decide +kernel
theorem dJ9_floorMod_f86c9_8 : decode cJ9_floorMod_f86c9 8 = .ok (.lconst 0, 1) := by decide +kernel
theorem dJ9_floorMod_f86c9_9 : decode cJ9_floorMod_f86c9 9 = .ok (.lcmp, 1) := by decide +kernel
theorem dJ9_floorMod_f86c9_10 : decode cJ9_floorMod_f86c9 10 = .ok (.ifCond .ge 15, 3) := by decide +kernel
theorem dJ9_floorMod_f86c9_13 : decode cJ9_floorMod_f86c9 13 = .ok (.lload 4, 2) := by decide +kernel
theorem dJ9_floorMod_f86c9_15 : decode cJ9_floorMod_f86c9 15 = .ok (.lconst 0, 1) := by decide +kernel
theorem dJ9_floorMod_f86c9_16 : decode cJ9_floorMod_f86c9 16 = .ok (.lcmp, 1) := by decide +kernel
theorem dJ9_floorMod_f86c9_17 : decode cJ9_floorMod_f86c9 17 = .ok (.ifCond .eq 8, 3) := by decide +kernel
theorem dJ9_floorMod_f86c9_20 : decode cJ9_floorMod_f86c9 20 = .ok (.lload 4, 2) := by decide +kernel
theorem dJ9_floorMod_f86c9_22 : decode cJ9_floorMod_f86c9 22 = .ok (.lload_n 2, 1) := by decide +kernel
theorem dJ9_floorMod_f86c9_23 : decode cJ9_floorMod_f86c9 23 = .ok (.ladd, 1) := by decide +kernel
end
section
theorem dJ9_floorMod_f86c9_24 : decode cJ9_floorMod_f86c9 24 = .ok (.lreturn, 1) := by decide +kernel
theorem dJ9_floorMod_f86c9_25 : decode cJ9_floorMod_f86c9 25 = .ok (.lload 4, 2) := by decide +kernel
theorem dJ9_floorMod_f86c9_27 : decode cJ9_floorMod_f86c9 27 = .ok (.lreturn, 1) := by decide +kernel
theorem dJ9_max_7cf53_0 : decode cJ9_max_7cf53 0 = .ok (.iload_n 0, 1) := by decide +kernel
theorem dJ9_max_7cf53_1 : decode cJ9_max_7cf53 1 = .ok (.iload_n 1, 1) := by decide +kernel
theorem dJ9_max_7cf53_2 : decode cJ9_max_7cf53 2 = .ok (.if_icmp .lt 7, 3) := by decide +kernel
theorem dJ9_max_7cf53_5 : decode cJ9_max_7cf53 5 = .ok (.iload_n 0, 1) := by decide +kernel
theorem dJ9_max_7cf53_6 : decode cJ9_max_7cf53 6 = .ok (.goto 4, 3) := by decide +kernel
theorem dJ9_max_7cf53_9 : decode cJ9_max_7cf53 9 = .ok (.iload_n 1, 1) := by decide +kernel
theorem dJ9_max_7cf53_10 : decode cJ9_max_7cf53 10 = .ok (.ireturn, 1) := by decide +kernel
theorem dJ9_max_f86c9_0 : decode cJ9_max_f86c9 0 = .ok (.lload_n 0, 1) := by decide +kernel
theorem dJ9_max_f86c9_1 : decode cJ9_max_f86c9 1 = .ok (.lload_n 2, 1) := by decide +kernel
theorem dJ9_max_f86c9_2 : decode cJ9_max_f86c9 2 = .ok (.lcmp, 1) := by decide +kernel
theorem dJ9_max_f86c9_3 : decode cJ9_max_f86c9 3 = .ok (.ifCond .lt 7, 3) := by decide +kernel
theorem dJ9_max_f86c9_6 : decode cJ9_max_f86c9 6 = .ok (.lload_n 0, 1) := by decide +kernel
theorem dJ9_max_f86c9_7 : decode cJ9_max_f86c9 7 = .ok (.goto 4, 3) := by decide +kernel
theorem dJ9_max_f86c9_10 : decode cJ9_max_f86c9 10 = .ok (.lload_n 2, 1) := by decide +kernel
theorem dJ9_max_f86c9_11 : decode cJ9_max_f86c9 11 = .ok (.lreturn, 1) := by decide +kernel
theorem dJ9_min_7cf53_0 : decode cJ9_min_7cf53 0 = .ok (.iload_n 0, 1) := by decide +kernel
theorem dJ9_min_7cf53_1 : decode cJ9_min_7cf53 1 = .ok (.iload_n 1, 1) := by decide +kernel
theorem dJ9_min_7cf53_2 : decode cJ9_min_7cf53 2 = .ok (.if_icmp .gt 7, 3) := by decide +kernel
theorem dJ9_min_7cf53_5 : decode cJ9_min_7cf53 5 = .ok (.iload_n 0, 1) := by decide +kernel
theorem dJ9_min_7cf53_6 : decode cJ9_min_7cf53 6 = .ok (.goto 4, 3) := by decide +kernel
theorem dJ9_min_7cf53_9 : decode cJ9_min_7cf53 9 = .ok (.iload_n 1, 1) := by decide +kernel
theorem dJ9_min_7cf53_10 : decode cJ9_min_7cf53 10 = .ok (.ireturn, 1) := by decide +kernel
theorem dJ9_min_f86c9_0 : decode cJ9_min_f86c9 0 = .ok (.lload_n 0, 1) := by decide +kernel
theorem dJ9_min_f86c9_1 : decode cJ9_min_f86c9 1 = .ok (.lload_n 2, 1) := by decide +kernel
theorem dJ9_min_f86c9_2 : decode cJ9_min_f86c9 2 = .ok (.lcmp, 1) := by decide +kernel
theorem dJ9_min_f86c9_3 : decode cJ9_min_f86c9 3 = .ok (.ifCond .gt 7, 3) := by decide +kernel
theorem dJ9_min_f86c9_6 : decode cJ9_min_f86c9 6 = .ok (.lload_n 0, 1) := by decide +kernel
theorem dJ9_min_f86c9_7 : decode cJ9_min_f86c9 7 = .ok (.goto 4, 3) := by decide +kernel
theorem dJ9_min_f86c9_10 : decode cJ9_min_f86c9 10 = .ok (.lload_n 2, 1) := by decide +kernel
theorem dJ9_min_f86c9_11 : decode cJ9_min_f86c9 11 = .ok (.lreturn, 1) := by decide +kernel
end
section
/-! regions: what lies in each, and how long its arrays are -/
def rg_k : Nat → Nat ⊕ FieldType := fun r => match r with
  | 1 => .inl 7
  | 2 => .inr (.object "QuotaMeter$Tenant")
  | 3 => .inr (.object "QuotaMeter$Account")
  | 4 => .inr (.object "QuotaMeter$Hold")
  | 5 => .inr (.object "QuotaMeter$Invoice")
  | 6 => .inl 4
  | 7 => .inr (.long)
  | 8 => .inr (.int)
  | 9 => .inr (.int)
  | 10 => .inl 6
  | 11 => .inr (.object "QuotaMeter$Prices")
  | 12 => .inr (.object "QuotaMeter$Prices")
  | 13 => .inr (.long)
  | 14 => .inr (.long)
  | 15 => .inl 1
  | 16 => .inr (.long)
  | 17 => .inr (.int)
  | 18 => .inl 5
  | 19 => .inr (.long)
  | 20 => .inr (.int)
  | 21 => .inr (.int)
  | 22 => .inl 0
  | 23 => .inr (.array .long)
  | 24 => .inr (.long)
  | 25 => .inr (.int)
  | 26 => .inr (.int)
  | 27 => .inl 2
  | 28 => .inl 3
  | 29 => .inr (.int)
  | 30 => .inr (.int)
  | 31 => .inr (.long)
  | 32 => .inr (.long)
  | 33 => .inl 8
  | 34 => .inr (.int)
  | 35 => .inr (.int)
  | 36 => .inr (.int)
  | 37 => .inr (.long)
  | 38 => .inr (.long)
  | 39 => .inr (.int)
  | 40 => .inr (.int)
  | 41 => .inr (.int)
  | 42 => .inr (.int)
  | 43 => .inr (.int)
  | 44 => .inr (.int)
  | 45 => .inr (.boolean)
  | 46 => .inr (.long)
  | 47 => .inr (.int)
  | 48 => .inr (.long)
  | 49 => .inr (.int)
  | 50 => .inr (.int)
  | 51 => .inr (.long)
  | 52 => .inr (.int)
  | 53 => .inr (.int)
  | 54 => .inr (.long)
  | 55 => .inr (.long)
  | 56 => .inr (.boolean)
  | 57 => .inr (.int)
  | 58 => .inr (.int)
  | 59 => .inr (.int)
  | 60 => .inr (.long)
  | _ => .inr .int
def rg_n : Nat → Nat := fun r => match r with
  | 2 => 6
  | 3 => 24
  | 4 => 200
  | 5 => 60
  | 7 => 300
  | 8 => 300
  | 9 => 300
  | 11 => 4
  | 12 => 4
  | 13 => 4
  | 14 => 4
  | 16 => 40
  | 17 => 40
  | 19 => 5
  | 20 => 5
  | 21 => 5
  | 23 => 4
  | 24 => 100
  | 25 => 4
  | 26 => 4
  | 29 => 21
  | 30 => 21
  | 31 => 21
  | 32 => 21
  | 34 => 24
  | 35 => 24
  | 36 => 96
  | 37 => 9600
  | 38 => 300
  | 39 => 300
  | 40 => 300
  | 41 => 200
  | 42 => 200
  | 43 => 200
  | 44 => 200
  | 45 => 200
  | 46 => 4752
  | 47 => 6
  | 48 => 6
  | 49 => 6
  | 50 => 6
  | 51 => 240
  | 52 => 240
  | 53 => 6
  | 54 => 24
  | 55 => 24
  | 56 => 24
  | 57 => 60
  | 58 => 60
  | 59 => 60
  | 60 => 14400
  | _ => 0
def rg_C : Nat → String := fun c => match c with
  | 0 => RX0
  | 1 => RX1
  | 2 => RX2
  | 3 => RX3
  | 4 => RX4
  | 5 => RX5
  | 6 => RX6
  | 7 => RX7
  | _ => RX8
def rg_T : Nat → u_T := fun c => match c with
  | 0 => TX0
  | 1 => TX1
  | 2 => TX2
  | 3 => TX3
  | 4 => TX4
  | 5 => TX5
  | 6 => TX6
  | 7 => TX7
  | _ => TX8
def rg_t : Nat → Nat → FieldType := fun c => match c with
  | 0 => tyX0
  | 1 => tyX1
  | 2 => tyX2
  | 3 => tyX3
  | 4 => tyX4
  | 5 => tyX5
  | 6 => tyX6
  | 7 => tyX7
  | _ => tyX8
def rg_N : Nat → Nat := fun c => match c with
  | 0 => 6
  | 1 => 3
  | 2 => 5
  | 3 => 8
  | 4 => 4
  | 5 => 6
  | 6 => 10
  | 7 => 10
  | _ => 32
theorem inX0 : ∀ w ∈ wsX00, w ∈ lw_tbl := by decide +kernel
theorem inX1 : ∀ w ∈ wsX10, w ∈ lw_tbl := by decide +kernel
theorem inX2 : ∀ w ∈ wsX20, w ∈ lw_tbl := by decide +kernel
theorem inX3 : ∀ w ∈ wsX30, w ∈ lw_tbl := by decide +kernel
theorem inX4 : ∀ w ∈ wsX40, w ∈ lw_tbl := by decide +kernel
theorem inX5 : ∀ w ∈ wsX50, w ∈ lw_tbl := by decide +kernel
theorem inX6 : ∀ w ∈ wsX60, w ∈ lw_tbl := by decide +kernel
theorem inX7 : ∀ w ∈ wsX70, w ∈ lw_tbl := by decide +kernel
theorem inX8 : ∀ w ∈ wsX80, w ∈ lw_tbl := by decide +kernel
theorem rg_cl : ∀ c, c < 9 → vwCl[c]? = some (rg_C c, rg_T c, rg_N c)
  | 0, _ => rfl
  | 1, _ => rfl
  | 2, _ => rfl
  | 3, _ => rfl
  | 4, _ => rfl
  | 5, _ => rfl
  | 6, _ => rfl
  | 7, _ => rfl
  | 8, _ => rfl
  | c + 9, h => absurd h (by omega)
theorem rg_in : ∀ c, c < 9 → ∀ w ∈ u_ws (rg_C c) (rg_T c) (rg_N c), w ∈ lw_tbl
  | 0, _ => inX0
  | 1, _ => inX1
  | 2, _ => inX2
  | 3, _ => inX3
  | 4, _ => inX4
  | 5, _ => inX5
  | 6, _ => inX6
  | 7, _ => inX7
  | 8, _ => inX8
  | c + 9, h => absurd h (by omega)
theorem rg_ty : ∀ c, c < 9 → ∀ k, k < rg_N c → parseFieldDescriptor (rg_T c k).2.2.1 = some (rg_t c k)
  | 0, _ => tyX0_ok
  | 1, _ => tyX1_ok
  | 2, _ => tyX2_ok
  | 3, _ => tyX3_ok
  | 4, _ => tyX4_ok
  | 5, _ => tyX5_ok
  | 6, _ => tyX6_ok
  | 7, _ => tyX7_ok
  | 8, _ => tyX8_ok
  | c + 9, h => absurd h (by omega)
theorem rg_nm : ∀ c, c < 9 → ∀ a, a < rg_N c → ∀ b, b < rg_N c → a ≠ b → (rg_T c a).2.1 ≠ (rg_T c b).2.1
  | 0, _ => nmX0
  | 1, _ => nmX1
  | 2, _ => nmX2
  | 3, _ => nmX3
  | 4, _ => nmX4
  | 5, _ => nmX5
  | 6, _ => nmX6
  | 7, _ => nmX7
  | 8, _ => nmX8
  | c + 9, h => absurd h (by omega)
theorem rg_in_ : ∀ c w, c < 9 → w ∈ u_ws (rg_C c) (rg_T c) (rg_N c) → w ∈ lw_tbl := fun c w h => rg_in c h w
end
section
/-! The abstract machine: values, heaps by regions, what a frame stands for. -/
abbrev qV : Type := Int32 ⊕ (Int64 ⊕ Option (Nat × Nat))
abbrev qH : Type := (Nat → Nat) × (Nat → Nat → Nat → Int32) × (Nat → Nat → Nat → Int64) × (Nat → Nat → Nat → Option (Nat × Nat))
abbrev qv_i (x : Int32) : qV := .inl x
abbrev qv_l (x : Int64) : qV := .inr (.inl x)
abbrev qv_r (x : Option (Nat × Nat)) : qV := .inr (.inr x)
def qg_n (h : qH) : Nat → Nat := h.1
def qg_i (h : qH) : Nat → Nat → Nat → Int32 := h.2.1
def qg_l (h : qH) : Nat → Nat → Nat → Int64 := h.2.2.1
def qg_r (h : qH) : Nat → Nat → Nat → Option (Nat × Nat) := h.2.2.2
def qs_i (h : qH) (r i k : Nat) (x : Int32) : qH := (h.1, fun a b c => if a = r ∧ b = i ∧ c = k then x else h.2.1 a b c, h.2.2.1, h.2.2.2)
def qs_l (h : qH) (r i k : Nat) (x : Int64) : qH := (h.1, h.2.1, fun a b c => if a = r ∧ b = i ∧ c = k then x else h.2.2.1 a b c, h.2.2.2)
def qs_r (h : qH) (r i k : Nat) (x : Option (Nat × Nat)) : qH := (h.1, h.2.1, h.2.2.1, fun a b c => if a = r ∧ b = i ∧ c = k then x else h.2.2.2 a b c)
def qs_n (h : qH) (r : Nat) : qH := (fun a => if a = r then h.1 a + 1 else h.1 a, h.2.1, h.2.2.1, h.2.2.2)
theorem qni (h : qH) (r i k : Nat) (x : Int32) : qg_n (qs_i h r i k x) = qg_n h := rfl
theorem qnl (h : qH) (r i k : Nat) (x : Int64) : qg_n (qs_l h r i k x) = qg_n h := rfl
theorem qnr (h : qH) (r i k : Nat) (x : Option (Nat × Nat)) : qg_n (qs_r h r i k x) = qg_n h := rfl
theorem qnn (h : qH) (r a : Nat) : qg_n (qs_n h r) a = if a = r then qg_n h a + 1 else qg_n h a := rfl
theorem qii (h : qH) (r i k : Nat) (x : Int32) (a b c : Nat) : qg_i (qs_i h r i k x) a b c = if a = r ∧ b = i ∧ c = k then x else qg_i h a b c := rfl
theorem qil (h : qH) (r i k : Nat) (x : Int64) : qg_i (qs_l h r i k x) = qg_i h := rfl
theorem qir (h : qH) (r i k : Nat) (x : Option (Nat × Nat)) : qg_i (qs_r h r i k x) = qg_i h := rfl
theorem qin (h : qH) (r : Nat) : qg_i (qs_n h r) = qg_i h := rfl
theorem qli (h : qH) (r i k : Nat) (x : Int32) : qg_l (qs_i h r i k x) = qg_l h := rfl
theorem qll (h : qH) (r i k : Nat) (x : Int64) (a b c : Nat) : qg_l (qs_l h r i k x) a b c = if a = r ∧ b = i ∧ c = k then x else qg_l h a b c := rfl
theorem qlr (h : qH) (r i k : Nat) (x : Option (Nat × Nat)) : qg_l (qs_r h r i k x) = qg_l h := rfl
theorem qln (h : qH) (r : Nat) : qg_l (qs_n h r) = qg_l h := rfl
theorem qri (h : qH) (r i k : Nat) (x : Int32) : qg_r (qs_i h r i k x) = qg_r h := rfl
theorem qrl (h : qH) (r i k : Nat) (x : Int64) : qg_r (qs_l h r i k x) = qg_r h := rfl
theorem qrr (h : qH) (r i k : Nat) (x : Option (Nat × Nat)) (a b c : Nat) : qg_r (qs_r h r i k x) a b c = if a = r ∧ b = i ∧ c = k then x else qg_r h a b c := rfl
theorem qrn (h : qH) (r : Nat) : qg_r (qs_n h r) = qg_r h := rfl
/-- a value on the machine -/
def qc_o (ρ : Nat → Nat → Nat) (o : Option (Nat × Nat)) : Option Nat := o.map (fun a => ρ a.1 a.2)
def qc_v (ρ : Nat → Nat → Nat) : qV → Value
  | .inl x => .int x
  | .inr (.inl x) => .long x
  | .inr (.inr o) => va_rf (qc_o ρ o)
/-- every reference is to a made object -/
def qk_v (n : Nat → Nat) : qV → Prop
  | .inl _ => True
  | .inr (.inl _) => True
  | .inr (.inr o) => ∀ a, o = some a → a.2 < n a.1
def qk_l (n : Nat → Nat) (st : List qV) : Prop := ∀ v ∈ st, qk_v n v
def qk_L (n : Nat → Nat) (L : List (Nat × qV)) : Prop := ∀ q ∈ L, qk_v n q.2
theorem qk_nil {n : Nat → Nat} : qk_l n [] := fun _ h => by cases h
theorem qk_c {n : Nat → Nat} {v : qV} {st : List qV} (h1 : qk_v n v) (h2 : qk_l n st) : qk_l n (v :: st) := fun w hw => by
  rcases List.mem_cons.mp hw with rfl | h
  · exact h1
  · exact h2 w h
theorem qk_h {n : Nat → Nat} {v : qV} {st : List qV} (h : qk_l n (v :: st)) : qk_v n v := h v List.mem_cons_self
theorem qk_t {n : Nat → Nat} {v : qV} {st : List qV} (h : qk_l n (v :: st)) : qk_l n st := fun w hw => h w (List.mem_cons_of_mem _ hw)
theorem qk_vm {n n' : Nat → Nat} (hn : ∀ r, n r ≤ n' r) {v : qV} (h : qk_v n v) : qk_v n' v := by
  rcases v with x | x | o
  · trivial
  · trivial
  · intro a ha
    exact Nat.lt_of_lt_of_le (h a ha) (hn a.1)
theorem qk_lm {n n' : Nat → Nat} (hn : ∀ r, n r ≤ n' r) {st : List qV} (h : qk_l n st) : qk_l n' st := fun v hv => qk_vm hn (h v hv)
theorem qk_Lm {n n' : Nat → Nat} (hn : ∀ r, n r ≤ n' r) {L : List (Nat × qV)} (h : qk_L n L) : qk_L n' L := fun v hv => qk_vm hn (h v hv)
/-- another map of addresses that says the same of what is made -/
theorem qc_vm {n : Nat → Nat} {ρ ρ' : Nat → Nat → Nat} (hρ : ∀ r i, i < n r → ρ' r i = ρ r i) {v : qV} (h : qk_v n v) : qc_v ρ' v = qc_v ρ v := by
  rcases v with x | x | o
  · rfl
  · rfl
  · cases o with
    | none => rfl
    | some a =>
      show Value.ref (ρ' a.1 a.2) = Value.ref (ρ a.1 a.2)
      rw [hρ a.1 a.2 (h a rfl)]
theorem qc_lm {n : Nat → Nat} {ρ ρ' : Nat → Nat → Nat} (hρ : ∀ r i, i < n r → ρ' r i = ρ r i) {st : List qV} (h : qk_l n st) : st.map (qc_v ρ') = st.map (qc_v ρ) := by
  apply List.map_congr_left
  intro v hv
  exact qc_vm hρ (h v hv)
theorem qc_Lm {n : Nat → Nat} {ρ ρ' : Nat → Nat → Nat} (hρ : ∀ r i, i < n r → ρ' r i = ρ r i) {L : List (Nat × qV)} (h : qk_L n L) : L.map (fun q => (q.1, qc_v ρ' q.2)) = L.map (fun q => (q.1, qc_v ρ q.2)) := by
  apply List.map_congr_left
  intro v hv
  rw [qc_vm hρ (h v hv)]
theorem qc_om {n : Nat → Nat} {ρ ρ' : Nat → Nat → Nat} (hρ : ∀ r i, i < n r → ρ' r i = ρ r i) {o : Option (Nat × Nat)} (h : ∀ a, o = some a → a.2 < n a.1) : qc_o ρ' o = qc_o ρ o := by
  cases o with
  | none => rfl
  | some a =>
    show some (ρ' a.1 a.2) = some (ρ a.1 a.2)
    rw [hρ a.1 a.2 (h a rfl)]
/-- what an object's field, an array's place holds -/
def qf_v (ρ : Nat → Nat → Nat) (h : qH) (ty : FieldType) (r i k : Nat) : Value := match ty with
  | .long => .long (qg_l h r i k)
  | .object _ => va_rf (qc_o ρ (qg_r h r i k))
  | .array _ => va_rf (qc_o ρ (qg_r h r i k))
  | .float => .null
  | .double => .null
  | _ => .int (qg_i h r i k)
def qf_a (ρ : Nat → Nat → Nat) (h : qH) (ty : FieldType) (r i : Nat) : (Nat → Int32) ⊕ (Nat → Int64) ⊕ (Nat → UInt32) ⊕ (Nat → UInt64) ⊕ (Nat → Option Nat) := match ty with
  | .long => .inr (.inl (qg_l h r i))
  | .object _ => .inr (.inr (.inr (.inr (fun k => qc_o ρ (qg_r h r i k)))))
  | .array _ => .inr (.inr (.inr (.inr (fun k => qc_o ρ (qg_r h r i k)))))
  | _ => .inl (qg_i h r i)
end
section
/-! What a heap of the machine is, of an abstract one -/
def qa_at (D : va_G) (ρ : Nat → Nat → Nat) (h : qH) (s : State) (H : Heap) (r i : Nat) : Prop := match rg_k r with
  | .inl c => c < 9 ∧ t_OB (ρ r i) (D.1 c) (rg_N c) (D.2 c) H (fun k => qf_v ρ h (rg_t c k) r i k)
  | .inr ty => ∃ cA : ClassId, ArrOfT s cA ty ∧ va_RA s cA ty ∧ H[ρ r i]? = some (vp_cell cA (rg_n r, qf_a ρ h ty r i))
theorem qa_at_o {D : va_G} {ρ : Nat → Nat → Nat} {h : qH} {s : State} {H : Heap} {r i c : Nat} (hk : rg_k r = .inl c) : qa_at D ρ h s H r i ↔ c < 9 ∧ t_OB (ρ r i) (D.1 c) (rg_N c) (D.2 c) H (fun k => qf_v ρ h (rg_t c k) r i k) := by
  unfold qa_at
  rw [hk]
theorem qa_at_a {D : va_G} {ρ : Nat → Nat → Nat} {h : qH} {s : State} {H : Heap} {r i : Nat} {ty : FieldType} (hk : rg_k r = .inr ty) : qa_at D ρ h s H r i ↔ ∃ cA : ClassId, ArrOfT s cA ty ∧ va_RA s cA ty ∧ H[ρ r i]? = some (vp_cell cA (rg_n r, qf_a ρ h ty r i)) := by
  unfold qa_at
  rw [hk]
/-- the array class of rows of longs -/
def qa_J (s : State) : Prop := ∃ (comp c c0 : ClassId) (k k0 : Class), s.vm.findClass (FieldType.array .long).toString = some comp ∧ s.vm.findClass ("[" ++ (FieldType.array .long).toString) = some c ∧ s.vm.classes[c]? = some k ∧ k.kind = .array comp (.array .long) ∧ s.vm.classes[comp]? = some k0 ∧ k0.kind = .array c0 .long
theorem qa_J.moved {u U : State} (hvm : u.vm.Alike U.vm) (h : qa_J u) : qa_J U := by
  obtain ⟨comp, c, c0, k, k0, h1, h2, h3, h4, h5, h6⟩ := h
  obtain ⟨k', hk', he⟩ := hvm.2.2 _ _ h3
  obtain ⟨k0', hk0', he0⟩ := hvm.2.2 _ _ h5
  exact ⟨comp, c, c0, k', k0', by rw [hvm.findClass]; exact h1, by rw [hvm.findClass]; exact h2, hk', by rw [he]; exact h4, hk0', by rw [he0]; exact h6⟩
/-- the classes' knowledge, and the words that are not of the warm kind -/
def qa_K (D : va_G) (s : State) : Prop := va_K D vwCl [] s ∧ (va_AO "QuotaMeter$Tenant" s ∧ va_AO "QuotaMeter$Account" s ∧ va_AO "QuotaMeter$Hold" s ∧ va_AO "QuotaMeter$Invoice" s ∧ va_AO "QuotaMeter$Prices" s) ∧ qa_J s
def qa_N (s : State) : Prop := va_Nw (.methodLinkNest "QuotaMeter" 35 ⟨"QuotaMeter$KeyBook", "<init>", "()V"⟩ "QuotaMeter") s ∧ va_Nw (.methodLinkNest "QuotaMeter$Tenant" 29 ⟨"QuotaMeter$CreditBook", "<init>", "()V"⟩ "QuotaMeter") s
theorem qa_K.moved {D : va_G} {u U : State} (hvm : u.vm.Alike U.vm) (h : qa_K D u) : qa_K D U := ⟨va_K.moved hvm h.1, ⟨h.2.1.1.moved hvm, h.2.1.2.1.moved hvm, h.2.1.2.2.1.moved hvm, h.2.1.2.2.2.1.moved hvm, h.2.1.2.2.2.2.moved hvm⟩, h.2.2.moved hvm⟩
theorem qa_N.warm {s U : State} (hW : s.WarmedH U.vm) (h : qa_N s) : qa_N U := ⟨h.1.warmM hW, h.2.warmM hW⟩
theorem qa_N.same {s U : State} (hW : s.vm = U.vm) (h : qa_N s) : qa_N U := ⟨h.1.same rfl hW, h.2.same rfl hW⟩
def qa_X (ρ : Nat → Nat → Nat) (h : qH) (sz : Nat) (s : State) (H : Heap) : Prop := ∀ i, i < qg_n h 0 → ρ 0 i < sz ∧ ∃ scr : Cell, H[ρ 0 i]? = some scr ∧ s.isArrayOf scr .int ∧ scr.vm ≠ .unknown ∧ scr.slots.size = (qg_l h 0 i 0).toNatClampNeg ∧ ∀ j : Nat, j < (qg_l h 0 i 0).toNatClampNeg → scr.slots[j]? = some (.int (qg_i h 0 i j))
def qa_R (D : va_G) (sz : Nat) (ρ : Nat → Nat → Nat) (h : qH) (s : State) (H : Heap) : Prop :=
  (∀ r i, i < qg_n h r → r ≠ 0 → qa_at D ρ h s H r i ∧ sz ≤ ρ r i) ∧
  (∀ r i r' i', r ≠ 0 → r' ≠ 0 → i < qg_n h r → i' < qg_n h r' → ρ r i = ρ r' i' → r = r' ∧ i = i') ∧
  (∀ r i k, qg_n h r ≤ i → qg_i h r i k = 0 ∧ qg_l h r i k = 0 ∧ qg_r h r i k = none) ∧
  (∀ r i k a, qg_r h r i k = some a → a.2 < qg_n h a.1) ∧
  qa_K D s ∧ sz ≤ H.size ∧ qa_X ρ h sz s H
theorem qa_at.kept {D : va_G} {ρ : Nat → Nat → Nat} {h : qH} {s : State} {H H1 : Heap} {r i : Nat} (a : qa_at D ρ h s H r i) (hq : H1[ρ r i]? = H[ρ r i]?) : qa_at D ρ h s H1 r i := by
  cases hk : rg_k r with
  | inl c =>
    rw [qa_at_o hk] at a ⊢
    exact ⟨a.1, a.2.kept hq⟩
  | inr ty =>
    rw [qa_at_a hk] at a ⊢
    obtain ⟨cA, h1, h2, h3⟩ := a
    exact ⟨cA, h1, h2, hq.trans h3⟩
theorem qa_at.lt {D : va_G} {ρ : Nat → Nat → Nat} {h : qH} {s : State} {H : Heap} {r i : Nat} (a : qa_at D ρ h s H r i) : ρ r i < H.size := by
  cases hk : rg_k r with
  | inl c =>
    rw [qa_at_o hk] at a
    obtain ⟨-, cell, h2, -⟩ := a
    exact (Array.getElem?_eq_some_iff.mp h2).1
  | inr ty =>
    rw [qa_at_a hk] at a
    obtain ⟨cA, h1, h2, h3⟩ := a
    exact (Array.getElem?_eq_some_iff.mp h3).1
theorem qf_v_to {ρ ρ' : Nat → Nat → Nat} {h h' : qH} {r i : Nat} (e1 : qg_i h' r i = qg_i h r i) (e2 : qg_l h' r i = qg_l h r i) (e3 : ∀ k, qc_o ρ' (qg_r h' r i k) = qc_o ρ (qg_r h r i k)) (ty : FieldType) (k : Nat) : qf_v ρ' h' ty r i k = qf_v ρ h ty r i k := by
  cases ty <;> simp [qf_v, e1, e2, e3]
theorem qf_a_to {ρ ρ' : Nat → Nat → Nat} {h h' : qH} {r i : Nat} (e1 : qg_i h' r i = qg_i h r i) (e2 : qg_l h' r i = qg_l h r i) (e3 : ∀ k, qc_o ρ' (qg_r h' r i k) = qc_o ρ (qg_r h r i k)) (ty : FieldType) : qf_a ρ' h' ty r i = qf_a ρ h ty r i := by
  cases ty <;> simp [qf_a, e1, e2, e3]
theorem qa_at.to {D : va_G} {ρ ρ' : Nat → Nat → Nat} {h h' : qH} {s : State} {H : Heap} {r i : Nat} (a : qa_at D ρ h s H r i) (e0 : ρ' r i = ρ r i) (e1 : qg_i h' r i = qg_i h r i) (e2 : qg_l h' r i = qg_l h r i) (e3 : ∀ k, qc_o ρ' (qg_r h' r i k) = qc_o ρ (qg_r h r i k)) : qa_at D ρ' h' s H r i := by
  cases hk : rg_k r with
  | inl c =>
    rw [qa_at_o hk] at a ⊢
    refine ⟨a.1, ?_⟩
    rw [e0]
    exact a.2.to (fun k _ => (qf_v_to e1 e2 e3 _ k).symm)
  | inr ty =>
    rw [qa_at_a hk] at a ⊢
    obtain ⟨cA, h1, h2, h3⟩ := a
    exact ⟨cA, h1, h2, by rw [e0, qf_a_to e1 e2 e3]; exact h3⟩
theorem qa_at.moved {D : va_G} {ρ : Nat → Nat → Nat} {h : qH} {u U : State} {H : Heap} {r i : Nat} (hvm : u.vm.Alike U.vm) (a : qa_at D ρ h u H r i) : qa_at D ρ h U H r i := by
  cases hk : rg_k r with
  | inl c =>
    rw [qa_at_o hk] at a ⊢
    exact a
  | inr ty =>
    rw [qa_at_a hk] at a ⊢
    obtain ⟨cA, h1, h2, h3⟩ := a
    exact ⟨cA, arrOfT_moved hvm h1, h2.moved hvm, h3⟩
theorem qa_X.moved {ρ : Nat → Nat → Nat} {h : qH} {sz : Nat} {u U : State} {H : Heap} (hvm : u.vm.Alike U.vm) (a : qa_X ρ h sz u H) : qa_X ρ h sz U H := fun i hi => by
  obtain ⟨h0, scr, h1, h2, h3⟩ := a i hi
  exact ⟨h0, scr, h1, State.isArrayOf_alike hvm h2, h3⟩
theorem qa_R.moved {D : va_G} {sz : Nat} {ρ : Nat → Nat → Nat} {h : qH} {u U : State} {H : Heap} (hvm : u.vm.Alike U.vm) (a : qa_R D sz ρ h u H) : qa_R D sz ρ h U H :=
  ⟨fun r i hi hr => ⟨(a.1 r i hi hr).1.moved hvm, (a.1 r i hi hr).2⟩, a.2.1, a.2.2.1, a.2.2.2.1, a.2.2.2.2.1.moved hvm, a.2.2.2.2.2.1, a.2.2.2.2.2.2.moved hvm⟩
/-- one cell is written: a place of the object i of region r -/
theorem qa_R.upd {D : va_G} {sz : Nat} {ρ : Nat → Nat → Nat} {h h' : qH} {s : State} {H H1 : Heap} {r i : Nat} (a : qa_R D sz ρ h s H) (hr : r ≠ 0) (hi : i < qg_n h r) (hn : qg_n h' = qg_n h)
    (ho : ∀ r' i', ¬ (r' = r ∧ i' = i) → qg_i h' r' i' = qg_i h r' i' ∧ qg_l h' r' i' = qg_l h r' i' ∧ qg_r h' r' i' = qg_r h r' i') (hc : ∀ k b, qg_r h' r i k = some b → b.2 < qg_n h b.1)
    (hat : qa_at D ρ h' s H1 r i) (oq : ∀ q : Nat, q ≠ ρ r i → H1[q]? = H[q]?) (hz : H1.size = H.size) : qa_R D sz ρ h' s H1 := by
  obtain ⟨a1, a2, a3, a4, a5, a6, a7⟩ := a
  refine ⟨fun r' i' hi' hr' => ?_, ?_, fun r' i' k hk => ?_, fun r' i' k b hb => ?_, a5, by rw [hz]; exact a6, fun j hj => ?_⟩
  · rw [hn] at hi'
    refine ⟨?_, (a1 r' i' hi' hr').2⟩
    by_cases e : r' = r ∧ i' = i
    · rw [e.1, e.2]; exact hat
    · obtain ⟨e1, e2, e3⟩ := ho r' i' e
      refine ((a1 r' i' hi' hr').1.kept (oq _ (fun z => e ?_))).to rfl e1 e2 (fun k => by rw [e3])
      exact a2 r' i' r i hr' hr hi' hi z
  · rw [hn]; exact a2
  · rw [hn] at hk
    have e : ¬ (r' = r ∧ i' = i) := fun e => by rw [e.1, e.2] at hk; omega
    obtain ⟨e1, e2, e3⟩ := ho r' i' e
    rw [e1, e2, e3]
    exact a3 r' i' k hk
  · rw [hn]
    by_cases e : r' = r ∧ i' = i
    · rw [e.1, e.2] at hb
      exact hc k b hb
    · rw [(ho r' i' e).2.2] at hb
      exact a4 r' i' k b hb
  · rw [hn] at hj
    have e : ¬ (0 = r ∧ j = i) := fun e => hr e.1.symm
    obtain ⟨e1, e2, e3⟩ := ho 0 j e
    obtain ⟨h0, scr, h1, h2⟩ := a7 j hj
    refine ⟨h0, scr, ?_, ?_⟩
    · rw [oq _ (fun z => ?_)]
      · exact h1
      · have := (a1 r i hi hr).2
        omega
    · rw [e1, e2]
      exact h2
/-- a new cell: the next object of region r -/
def qr_up (ρ : Nat → Nat → Nat) (r i q : Nat) : Nat → Nat → Nat := fun a b => if a = r ∧ b = i then q else ρ a b
theorem qr_up_eq (ρ : Nat → Nat → Nat) (r i q : Nat) : qr_up ρ r i q r i = q := by simp [qr_up]
theorem qr_up_ne (ρ : Nat → Nat → Nat) {r i q a b : Nat} (h : ¬ (a = r ∧ b = i)) : qr_up ρ r i q a b = ρ a b := by simp only [qr_up, if_neg h]
theorem qr_up_le {n : Nat → Nat} (ρ : Nat → Nat → Nat) {r q : Nat} : ∀ a b, b < n a → qr_up ρ r (n r) q a b = ρ a b := fun a b hb => qr_up_ne ρ (fun e => by rw [e.1, e.2] at hb; omega)
theorem qa_R.new {D : va_G} {sz : Nat} {ρ : Nat → Nat → Nat} {h : qH} {s : State} {H H1 : Heap} {r : Nat} (a : qa_R D sz ρ h s H) (hr : r ≠ 0)
    (hat : qa_at D (qr_up ρ r (qg_n h r) H.size) h s H1 r (qg_n h r)) (oq : ∀ q : Nat, q < H.size → H1[q]? = H[q]?) (hz : H1.size = H.size + 1) : qa_R D sz (qr_up ρ r (qg_n h r) H.size) (qs_n h r) s H1 := by
  obtain ⟨a1, a2, a3, a4, a5, a6, a7⟩ := a
  have hold : ∀ r' i', i' < qg_n (qs_n h r) r' → (r' = r ∧ i' = qg_n h r) ∨ (i' < qg_n h r') := fun r' i' hi' => by
    rw [qnn] at hi'
    by_cases e : r' = r
    · subst e
      rw [if_pos rfl] at hi'
      rcases Nat.lt_or_ge i' (qg_n h r') with q | q
      · exact Or.inr q
      · exact Or.inl ⟨rfl, by omega⟩
    · rw [if_neg e] at hi'
      exact Or.inr hi'
  have hle : ∀ r', qg_n h r' ≤ qg_n (qs_n h r) r' := fun r' => by rw [qnn]; split <;> omega
  have hρ : ∀ r' i', i' < qg_n h r' → qr_up ρ r (qg_n h r) H.size r' i' = ρ r' i' := qr_up_le ρ
  refine ⟨fun r' i' hi' hr' => ?_, fun r' i' r2 i2 hr' hr2 hi' hi2 e => ?_, fun r' i' k hk => a3 r' i' k (Nat.le_trans (hle r') hk), fun r' i' k b hb => Nat.lt_of_lt_of_le (a4 r' i' k b hb) (hle _), a5, by rw [hz]; omega, fun j hj => ?_⟩
  · rcases hold r' i' hi' with ⟨e1, e2⟩ | hl
    · subst e1; subst e2
      refine ⟨hat.to rfl rfl rfl (fun k => rfl), ?_⟩
      rw [qr_up_eq]
      exact a6
    · refine ⟨?_, by rw [hρ r' i' hl]; exact (a1 r' i' hl hr').2⟩
      refine ((a1 r' i' hl hr').1.kept (oq _ (a1 r' i' hl hr').1.lt)).to (hρ r' i' hl) rfl rfl (fun k => qc_om hρ (fun b hb => a4 _ _ _ _ hb))
  · rcases hold r' i' hi' with ⟨e1, e2⟩ | hl <;> rcases hold r2 i2 hi2 with ⟨e3, e4⟩ | hl2
    · exact ⟨e1.trans e3.symm, e2.trans e4.symm⟩
    · rw [e1, e2, qr_up_eq, hρ r2 i2 hl2] at e
      have := (a1 r2 i2 hl2 hr2).1.lt
      omega
    · rw [e3, e4, qr_up_eq, hρ r' i' hl] at e
      have := (a1 r' i' hl hr').1.lt
      omega
    · rw [hρ r' i' hl, hρ r2 i2 hl2] at e
      exact a2 r' i' r2 i2 hr' hr2 hl hl2 e
  · rcases hold 0 j hj with ⟨e1, e2⟩ | hl
    · exact absurd e1.symm hr
    · obtain ⟨h0, scr, h1, h2⟩ := a7 j hl
      rw [hρ 0 j hl]
      exact ⟨h0, scr, by rw [oq _ (by omega)]; exact h1, h2⟩
end
section
/-! The judgement: from this abstract frame the method comes to its end with Post -/
def lw_good : List Cond := lw_tbl.filter goodWord
theorem gd_in {w : Cond} (h : w ∈ lw_tbl) (g : goodWord w = true) : w ∈ lw_good := List.mem_filter.mpr ⟨h, g⟩
theorem gd_ok : GoodIn lw_good lw_good := fun w h => ⟨h, good_of_word (List.mem_filter.mp h).2⟩
def qX (y : MethodName) (cc : ByteArray) (nL : Nat) (ret : Option FieldType) (p : Program) (s : State) (m : MethodId) (args : Array Value) (meth : Method) (c : Code) : Prop :=
  p.tables.exec = Jvm.exec ∧ c.code = cc ∧ c.maxLocals = nL ∧ s.vm.findClass y.cls = some m.cls ∧ (∀ w ∈ lw_good, w.before args s = true) ∧ meth.sig.returnType = ret ∧ meth.locks = false ∧ meth.name = y.name
def qS (n0 : Nat → Nat) (ρ0 : Nat → Nat → Nat) (sz : Nat) (D : va_G) (s : State) (ρ : Nat → Nat → Nat) (h : qH) (H : Heap) (locs : List Loc) (ls : Array Slot) (nL : Nat) (L : List (Nat × qV)) (st : List qV) : Prop :=
  ((∀ r, n0 r ≤ qg_n h r) ∧ (∀ r i, i < n0 r → ρ r i = ρ0 r i)) ∧ (lv_has ls nL (L.map (fun q => (q.1, qc_v ρ q.2))) ∧ qk_L (qg_n h) L) ∧ qk_l (qg_n h) st ∧ (qa_R D sz ρ h s H ∧ qa_N s) ∧ va_S (fun q => sz ≤ q) s.heap H locs ∧ sz ≤ s.heap.size
def qB (cc : ByteArray) (ret : Option FieldType) (pc : Nat) : Option qV → Prop
  | none => decode cc pc = .ok (.return_, 1) ∧ ret = none
  | some (.inl x) => decode cc pc = .ok (.ireturn, 1) ∧ ∃ ty, ret = some ty ∧ narrow ty (.int x) = .int x
  | some (.inr (.inl _)) => decode cc pc = .ok (.lreturn, 1) ∧ ret = some .long
  | some (.inr (.inr _)) => decode cc pc = .ok (.areturn, 1) ∧ ∃ ty, ret = some ty ∧ ((∃ n, ty = .object n) ∨ ∃ t, ty = .array t)
def Vw (y : MethodName) (cc : ByteArray) (nL : Nat) (ret : Option FieldType) (R : Room) (mc ms : Nat) (n0 : Nat → Nat) (Post : Option qV → qH → Prop) (pc : Nat) (L : List (Nat × qV)) (st : List qV) (h : qH) (cells slots : Nat) : Prop :=
  ∀ (p : Program) (l : Launch) (e : Env) (s : State) (m : MethodId) (args : Array Value) (below : List Frame) (meth : Method) (c : Code) (Q : State → Prop) (D : va_G) (sz : Nat) (ρ0 ρ : Nat → Nat → Nat) (H : Heap) (locs : List Loc) (ls : Array Slot),
    qX y cc nL ret p s m args meth c → qS n0 ρ0 sz D s ρ h H locs ls nL L st →
    (∀ (v : Option qV) (h' : qH) (ρ' : Nat → Nat → Nat) (H' : Heap) (locs' : List Loc) (cells' slots' pc' : Nat) (ls' : Array Slot), Post v h' → cells' ≤ mc → slots' ≤ ms → qB cc ret pc' v → qS n0 ρ0 sz D s ρ' h' H' locs' ls' nL [] v.toList → W p l e R s m args below meth c H' locs' cells' slots' Q (F0 m pc' ls' (v.toList.map (qc_v ρ')))) →
    W p l e R s m args below meth c H locs cells slots Q (F0 m pc ls (st.map (qc_v ρ)))
/-- locals: by their numbers -/
def qlk : List (Nat × qV) → Nat → Option qV
  | [], _ => none
  | q :: L, j => if q.1 = j then some q.2 else qlk L j
def qst (L : List (Nat × qV)) (j : Nat) (v : qV) : List (Nat × qV) := (j, v) :: L.filter (fun q => !(q.1 == j) && !(q.1 + 1 == j && (qc_v (fun _ _ => 0) q.2).category == 2))
def qst2 (L : List (Nat × qV)) (j : Nat) (v : qV) : List (Nat × qV) := (j, v) :: L.filter (fun q => !(q.1 == j) && (!(q.1 == j + 1) && !(q.1 + 1 == j && (qc_v (fun _ _ => 0) q.2).category == 2)))
theorem qlk_mem : ∀ {L : List (Nat × qV)} {j : Nat} {v : qV}, qlk L j = some v → (j, v) ∈ L
  | q :: L, j, v, h => by
    unfold qlk at h
    split at h
    · rename_i e
      cases h
      subst e
      exact List.mem_cons_self
    · exact List.mem_cons_of_mem _ (qlk_mem h)
def qsub : List (Nat × qV) → List (Nat × qV) → Prop
  | [], _ => True
  | q :: t, L => qlk L q.1 = some q.2 ∧ qsub t L
theorem qsub_mem : ∀ {t L : List (Nat × qV)}, qsub t L → ∀ q ∈ t, q ∈ L
  | q :: t, L, h, x, hx => by
    rcases List.mem_cons.mp hx with rfl | hx
    · exact qlk_mem h.1
    · exact qsub_mem h.2 x hx
theorem qc_cat (ρ ρ' : Nat → Nat → Nat) (v : qV) : (qc_v ρ v).category = (qc_v ρ' v).category := by
  rcases v with x | x | o
  · rfl
  · rfl
  · cases o <;> rfl
theorem qst_map (ρ : Nat → Nat → Nat) (L : List (Nat × qV)) (j : Nat) (v : qV) : (qst L j v).map (fun q => (q.1, qc_v ρ q.2)) = (j, qc_v ρ v) :: (L.map (fun q => (q.1, qc_v ρ q.2))).filter (fun q => !(q.1 == j) && !(q.1 + 1 == j && q.2.category == 2)) := by
  unfold qst
  rw [List.map_cons, List.filter_map]
  congr 2
  apply List.filter_congr
  intro q _
  simp [qc_cat ρ (fun _ _ => 0)]
theorem qst2_map (ρ : Nat → Nat → Nat) (L : List (Nat × qV)) (j : Nat) (v : qV) : (qst2 L j v).map (fun q => (q.1, qc_v ρ q.2)) = (j, qc_v ρ v) :: (L.map (fun q => (q.1, qc_v ρ q.2))).filter (fun q => !(q.1 == j) && (!(q.1 == j + 1) && !(q.1 + 1 == j && q.2.category == 2))) := by
  unfold qst2
  rw [List.map_cons, List.filter_map]
  congr 2
  apply List.filter_congr
  intro q _
  simp [qc_cat ρ (fun _ _ => 0)]
theorem qst_cl {n : Nat → Nat} {L : List (Nat × qV)} {j : Nat} {v : qV} (hL : qk_L n L) (hv : qk_v n v) : qk_L n (qst L j v) := fun q hq => by
  rcases List.mem_cons.mp hq with rfl | hq
  · exact hv
  · exact hL q (List.mem_filter.mp hq).1
theorem qst2_cl {n : Nat → Nat} {L : List (Nat × qV)} {j : Nat} {v : qV} (hL : qk_L n L) (hv : qk_v n v) : qk_L n (qst2 L j v) := fun q hq => by
  rcases List.mem_cons.mp hq with rfl | hq
  · exact hv
  · exact hL q (List.mem_filter.mp hq).1
section QS
variable {n0 : Nat → Nat} {ρ0 : Nat → Nat → Nat} {sz : Nat} {D : va_G} {s : State} {ρ : Nat → Nat → Nat} {h : qH} {H : Heap} {locs : List Loc} {ls : Array Slot} {nL : Nat} {L : List (Nat × qV)} {st st' : List qV}
theorem qS.stk (S : qS n0 ρ0 sz D s ρ h H locs ls nL L st) (hst : qk_l (qg_n h) st → qk_l (qg_n h) st') : qS n0 ρ0 sz D s ρ h H locs ls nL L st' := ⟨S.1, S.2.1, hst S.2.2.1, S.2.2.2⟩
theorem qS.lk (S : qS n0 ρ0 sz D s ρ h H locs ls nL L st) {j : Nat} {v : qV} (hl : qlk L j = some v) : ls[j]? = some (.val (qc_v ρ v)) := S.2.1.1.2.2 (j, qc_v ρ v) (List.mem_map.mpr ⟨(j, v), qlk_mem hl, rfl⟩)
theorem qS.lkc (S : qS n0 ρ0 sz D s ρ h H locs ls nL L st) {j : Nat} {v : qV} (hl : qlk L j = some v) : qk_v (qg_n h) v := S.2.1.2 (j, v) (qlk_mem hl)
end QS
section VW
variable {y : MethodName} {cc : ByteArray} {nL : Nat} {ret : Option FieldType} {R : Room} {mc ms : Nat} {n0 : Nat → Nat} {Post : Option qV → qH → Prop} {pc : Nat} {L : List (Nat × qV)} {st : List qV} {h : qH} {cells slots : Nat}
/-- fewer locals -/
theorem V_loc {L' : List (Nat × qV)} (hs : qsub L' L) (k : Vw y cc nL ret R mc ms n0 Post pc L' st h cells slots) : Vw y cc nL ret R mc ms n0 Post pc L st h cells slots := by
  intro p l e s m args below meth c Q D sz ρ0 ρ H locs ls X S E
  refine k p l e s m args below meth c Q D sz ρ0 ρ H locs ls X ⟨S.1, ⟨⟨S.2.1.1.1, S.2.1.1.2.1, fun q hq => ?_⟩, fun q hq => S.2.1.2 q (qsub_mem hs q hq)⟩, S.2.2⟩ E
  obtain ⟨x, hx, rfl⟩ := List.mem_map.mp hq
  exact S.2.1.1.2.2 _ (List.mem_map.mpr ⟨x, qsub_mem hs x hx, rfl⟩)
/-- more cells, more slots -/
theorem V_wide {c' s' : Nat} (h1 : cells ≤ c') (h2 : slots ≤ s') (k : Vw y cc nL ret R mc ms n0 Post pc L st h c' s') : Vw y cc nL ret R mc ms n0 Post pc L st h cells slots := by
  intro p l e s m args below meth c Q D sz ρ0 ρ H locs ls X S E
  exact W.widen h1 h2 (k p l e s m args below meth c Q D sz ρ0 ρ H locs ls X S E)
/-- the end -/
theorem V_ret {v : Option qV} (hB : qB cc ret pc v) (hP : Post v h) (h1 : cells ≤ mc) (h2 : slots ≤ ms) : Vw y cc nL ret R mc ms n0 Post pc L v.toList h cells slots := by
  intro p l e s m args below meth c Q D sz ρ0 ρ H locs ls X S E
  exact E v h ρ H locs cells slots pc ls hP h1 h2 hB ⟨S.1, ⟨⟨S.2.1.1.1, S.2.1.1.2.1, fun q hq => by cases hq⟩, fun q hq => by cases hq⟩, S.2.2⟩
theorem V_iret {x : Int32} {ty : FieldType} (hd : decode cc pc = .ok (.ireturn, 1)) (hr : ret = some ty) (hn : narrow ty (.int x) = .int x) (hP : Post (some (.inl x)) h) (h1 : cells ≤ mc) (h2 : slots ≤ ms) : Vw y cc nL ret R mc ms n0 Post pc L [.inl x] h cells slots := V_ret (v := some (.inl x)) ⟨hd, ty, hr, hn⟩ hP h1 h2
theorem V_lret {x : Int64} (hd : decode cc pc = .ok (.lreturn, 1)) (hr : ret = some .long) (hP : Post (some (.inr (.inl x))) h) (h1 : cells ≤ mc) (h2 : slots ≤ ms) : Vw y cc nL ret R mc ms n0 Post pc L [.inr (.inl x)] h cells slots := V_ret (v := some (.inr (.inl x))) ⟨hd, hr⟩ hP h1 h2
theorem V_aret {x : Option (Nat × Nat)} {nm : String} (hd : decode cc pc = .ok (.areturn, 1)) (hr : ret = some (.object nm)) (hP : Post (some (.inr (.inr x))) h) (h1 : cells ≤ mc) (h2 : slots ≤ ms) : Vw y cc nL ret R mc ms n0 Post pc L [.inr (.inr x)] h cells slots := V_ret (v := some (.inr (.inr x))) ⟨hd, _, hr, Or.inl ⟨_, rfl⟩⟩ hP h1 h2
theorem V_vret (hd : decode cc pc = .ok (.return_, 1)) (hr : ret = none) (hP : Post none h) (h1 : cells ≤ mc) (h2 : slots ≤ ms) : Vw y cc nL ret R mc ms n0 Post pc L [] h cells slots := V_ret (v := none) ⟨hd, hr⟩ hP h1 h2
theorem V_iconst (n : Nat) {v : Int32} {i : Int} (hd : decode cc pc = .ok (.iconst i, 1)) (hn : pc + 1 = n) (hv : Int32.ofInt i = v) (k : Vw y cc nL ret R mc ms n0 Post n L ((.inl v) :: st) h cells slots) : Vw y cc nL ret R mc ms n0 Post pc L (st) h cells slots := by
  subst hn
  intro p l e s m args below meth c Q D sz ρ0 ρ H locs ls X S E
  exact lv_iconst X.1 X.2.1 hd hv (k p l e s m args below meth c Q D sz ρ0 ρ H locs ls X (S.stk (fun z => qk_c trivial z)) E)
theorem V_bipush (n : Nat) {v : Int32} {i : Int} (hd : decode cc pc = .ok (.bipush i, 2)) (hn : pc + 2 = n) (hv : (Int8.ofInt i).toInt32 = v) (k : Vw y cc nL ret R mc ms n0 Post n L ((.inl v) :: st) h cells slots) : Vw y cc nL ret R mc ms n0 Post pc L (st) h cells slots := by
  subst hn
  intro p l e s m args below meth c Q D sz ρ0 ρ H locs ls X S E
  exact lv_bipush X.1 X.2.1 hd hv (k p l e s m args below meth c Q D sz ρ0 ρ H locs ls X (S.stk (fun z => qk_c trivial z)) E)
theorem V_sipush (n : Nat) {v : Int32} {i : Int} (hd : decode cc pc = .ok (.sipush i, 3)) (hn : pc + 3 = n) (hv : (Int16.ofInt i).toInt32 = v) (k : Vw y cc nL ret R mc ms n0 Post n L ((.inl v) :: st) h cells slots) : Vw y cc nL ret R mc ms n0 Post pc L (st) h cells slots := by
  subst hn
  intro p l e s m args below meth c Q D sz ρ0 ρ H locs ls X S E
  exact lv_sipush X.1 X.2.1 hd hv (k p l e s m args below meth c Q D sz ρ0 ρ H locs ls X (S.stk (fun z => qk_c trivial z)) E)
theorem V_lconst (n : Nat) {v : Int64} {i : Fin 2} (hd : decode cc pc = .ok (.lconst i, 1)) (hn : pc + 1 = n) (hv : Int64.ofNat (i : Nat) = v) (k : Vw y cc nL ret R mc ms n0 Post n L ((.inr (.inl v)) :: st) h cells slots) : Vw y cc nL ret R mc ms n0 Post pc L (st) h cells slots := by
  subst hn
  intro p l e s m args below meth c Q D sz ρ0 ρ H locs ls X S E
  exact lv_lconst X.1 X.2.1 hd hv (k p l e s m args below meth c Q D sz ρ0 ρ H locs ls X (S.stk (fun z => qk_c trivial z)) E)
theorem V_null (n : Nat) (hd : decode cc pc = .ok (.aconst_null, 1)) (hn : pc + 1 = n) (k : Vw y cc nL ret R mc ms n0 Post n L ((.inr (.inr none)) :: st) h cells slots) : Vw y cc nL ret R mc ms n0 Post pc L (st) h cells slots := by
  subst hn
  intro p l e s m args below meth c Q D sz ρ0 ρ H locs ls X S E
  exact lv_null X.1 X.2.1 hd (k p l e s m args below meth c Q D sz ρ0 ρ H locs ls X (S.stk (fun z => qk_c (fun _ h => by cases h) z)) E)
theorem V_ldc (n : Nat) {v : Int32} {i : Nat} (hd : decode cc pc = .ok (.ldc i, 2)) (hn : pc + 2 = n) (hw : Cond.constant y.cls i v ∈ lw_tbl) (k : Vw y cc nL ret R mc ms n0 Post n L ((.inl v) :: st) h cells slots) : Vw y cc nL ret R mc ms n0 Post pc L (st) h cells slots := by
  subst hn
  intro p l e s m args below meth c Q D sz ρ0 ρ H locs ls X S E
  exact lv_ldc X.1 X.2.1 X.2.2.2.1 (X.2.2.2.2.1 _ (gd_in hw rfl)) hd (k p l e s m args below meth c Q D sz ρ0 ρ H locs ls X (S.stk (fun z => qk_c trivial z)) E)
theorem V_ldc2 (n : Nat) {v : Int64} {i : Nat} (hd : decode cc pc = .ok (.ldc2_w i, 3)) (hn : pc + 3 = n) (hw : Cond.constantLong y.cls i v ∈ lw_tbl) (k : Vw y cc nL ret R mc ms n0 Post n L ((.inr (.inl v)) :: st) h cells slots) : Vw y cc nL ret R mc ms n0 Post pc L (st) h cells slots := by
  subst hn
  intro p l e s m args below meth c Q D sz ρ0 ρ H locs ls X S E
  exact lv_ldc2 X.1 X.2.1 X.2.2.2.1 (X.2.2.2.2.1 _ (gd_in hw rfl)) hd (k p l e s m args below meth c Q D sz ρ0 ρ H locs ls X (S.stk (fun z => qk_c trivial z)) E)
theorem V_iload_n (n : Nat) {v : Int32} {i : Fin 4} (hd : decode cc pc = .ok (.iload_n i, 1)) (hn : pc + 1 = n) (hl : qlk L (i : Nat) = some (.inl v)) (k : Vw y cc nL ret R mc ms n0 Post n L ((.inl v) :: st) h cells slots) : Vw y cc nL ret R mc ms n0 Post pc L (st) h cells slots := by
  subst hn
  intro p l e s m args below meth c Q D sz ρ0 ρ H locs ls X S E
  exact lv_iload_n X.1 X.2.1 hd rfl (S.lk hl) (k p l e s m args below meth c Q D sz ρ0 ρ H locs ls X (S.stk (fun z => qk_c trivial z)) E)
theorem V_iload (n : Nat) {v : Int32} {i : Nat} (hd : decode cc pc = .ok (.iload i, 2)) (hn : pc + 2 = n) (hl : qlk L i = some (.inl v)) (k : Vw y cc nL ret R mc ms n0 Post n L ((.inl v) :: st) h cells slots) : Vw y cc nL ret R mc ms n0 Post pc L (st) h cells slots := by
  subst hn
  intro p l e s m args below meth c Q D sz ρ0 ρ H locs ls X S E
  exact lv_iload X.1 X.2.1 hd (S.lk hl) (k p l e s m args below meth c Q D sz ρ0 ρ H locs ls X (S.stk (fun z => qk_c trivial z)) E)
theorem V_lload_n (n : Nat) {v : Int64} {i : Fin 4} (hd : decode cc pc = .ok (.lload_n i, 1)) (hn : pc + 1 = n) (hl : qlk L (i : Nat) = some (.inr (.inl v))) (k : Vw y cc nL ret R mc ms n0 Post n L ((.inr (.inl v)) :: st) h cells slots) : Vw y cc nL ret R mc ms n0 Post pc L (st) h cells slots := by
  subst hn
  intro p l e s m args below meth c Q D sz ρ0 ρ H locs ls X S E
  exact lv_lload_n X.1 X.2.1 hd rfl (S.lk hl) (k p l e s m args below meth c Q D sz ρ0 ρ H locs ls X (S.stk (fun z => qk_c trivial z)) E)
theorem V_lload (n : Nat) {v : Int64} {i : Nat} (hd : decode cc pc = .ok (.lload i, 2)) (hn : pc + 2 = n) (hl : qlk L i = some (.inr (.inl v))) (k : Vw y cc nL ret R mc ms n0 Post n L ((.inr (.inl v)) :: st) h cells slots) : Vw y cc nL ret R mc ms n0 Post pc L (st) h cells slots := by
  subst hn
  intro p l e s m args below meth c Q D sz ρ0 ρ H locs ls X S E
  exact lv_lload X.1 X.2.1 hd (S.lk hl) (k p l e s m args below meth c Q D sz ρ0 ρ H locs ls X (S.stk (fun z => qk_c trivial z)) E)
theorem V_aload_n (n : Nat) {v : Option (Nat × Nat)} {i : Fin 4} (hd : decode cc pc = .ok (.aload_n i, 1)) (hn : pc + 1 = n) (hl : qlk L (i : Nat) = some (.inr (.inr v))) (k : Vw y cc nL ret R mc ms n0 Post n L ((.inr (.inr v)) :: st) h cells slots) : Vw y cc nL ret R mc ms n0 Post pc L (st) h cells slots := by
  subst hn
  intro p l e s m args below meth c Q D sz ρ0 ρ H locs ls X S E
  have kk := (k p l e s m args below meth c Q D sz ρ0 ρ H locs ls X (S.stk (fun z => qk_c (S.lkc hl) z)) E)
  cases v with
  | some a => exact lv_aload_n X.1 X.2.1 hd rfl (S.lk hl) kk
  | none => exact lv_aload_nN X.1 X.2.1 hd rfl (S.lk hl) kk
theorem V_aload (n : Nat) {v : Option (Nat × Nat)} {i : Nat} (hd : decode cc pc = .ok (.aload i, 2)) (hn : pc + 2 = n) (hl : qlk L i = some (.inr (.inr v))) (k : Vw y cc nL ret R mc ms n0 Post n L ((.inr (.inr v)) :: st) h cells slots) : Vw y cc nL ret R mc ms n0 Post pc L (st) h cells slots := by
  subst hn
  intro p l e s m args below meth c Q D sz ρ0 ρ H locs ls X S E
  have kk := (k p l e s m args below meth c Q D sz ρ0 ρ H locs ls X (S.stk (fun z => qk_c (S.lkc hl) z)) E)
  cases v with
  | some a => exact lv_aload X.1 X.2.1 hd (S.lk hl) kk
  | none => exact lv_aloadN X.1 X.2.1 hd (S.lk hl) kk
theorem V_istore_n (n : Nat) {v : Int32} {i : Fin 4} (hd : decode cc pc = .ok (.istore_n i, 1)) (hn : pc + 1 = n) (hi : (i : Nat) < nL) (k : Vw y cc nL ret R mc ms n0 Post n (qst L (i : Nat) (.inl v)) st h cells slots) : Vw y cc nL ret R mc ms n0 Post pc L ((.inl v) :: st) h cells slots := by
  subst hn
  intro p l e s m args below meth c Q D sz ρ0 ρ H locs ls X S E
  exact lv_istore_n X.1 X.2.1 hd rfl S.2.1.1 hi (qst_map ρ L (i : Nat) (.inl v)).symm (fun ls hl => k p l e s m args below meth c Q D sz ρ0 ρ H locs ls X ⟨S.1, ⟨hl, qst_cl S.2.1.2 trivial⟩, qk_t S.2.2.1, S.2.2.2⟩ E)
theorem V_istore (n : Nat) {v : Int32} {i : Nat} (hd : decode cc pc = .ok (.istore i, 2)) (hn : pc + 2 = n) (hi : i < nL) (k : Vw y cc nL ret R mc ms n0 Post n (qst L i (.inl v)) st h cells slots) : Vw y cc nL ret R mc ms n0 Post pc L ((.inl v) :: st) h cells slots := by
  subst hn
  intro p l e s m args below meth c Q D sz ρ0 ρ H locs ls X S E
  exact lv_istore X.1 X.2.1 hd S.2.1.1 hi (qst_map ρ L i (.inl v)).symm (fun ls hl => k p l e s m args below meth c Q D sz ρ0 ρ H locs ls X ⟨S.1, ⟨hl, qst_cl S.2.1.2 trivial⟩, qk_t S.2.2.1, S.2.2.2⟩ E)
theorem V_lstore_n (n : Nat) {v : Int64} {i : Fin 4} (hd : decode cc pc = .ok (.lstore_n i, 1)) (hn : pc + 1 = n) (hi : (i : Nat) + 1 < nL) (k : Vw y cc nL ret R mc ms n0 Post n (qst2 L (i : Nat) (.inr (.inl v))) st h cells slots) : Vw y cc nL ret R mc ms n0 Post pc L ((.inr (.inl v)) :: st) h cells slots := by
  subst hn
  intro p l e s m args below meth c Q D sz ρ0 ρ H locs ls X S E
  exact lv_lstore_n X.1 X.2.1 hd rfl S.2.1.1 hi (qst2_map ρ L (i : Nat) (.inr (.inl v))).symm (fun ls hl => k p l e s m args below meth c Q D sz ρ0 ρ H locs ls X ⟨S.1, ⟨hl, qst2_cl S.2.1.2 trivial⟩, qk_t S.2.2.1, S.2.2.2⟩ E)
theorem V_lstore (n : Nat) {v : Int64} {i : Nat} (hd : decode cc pc = .ok (.lstore i, 2)) (hn : pc + 2 = n) (hi : i + 1 < nL) (k : Vw y cc nL ret R mc ms n0 Post n (qst2 L i (.inr (.inl v))) st h cells slots) : Vw y cc nL ret R mc ms n0 Post pc L ((.inr (.inl v)) :: st) h cells slots := by
  subst hn
  intro p l e s m args below meth c Q D sz ρ0 ρ H locs ls X S E
  exact lv_lstore X.1 X.2.1 hd S.2.1.1 hi (qst2_map ρ L i (.inr (.inl v))).symm (fun ls hl => k p l e s m args below meth c Q D sz ρ0 ρ H locs ls X ⟨S.1, ⟨hl, qst2_cl S.2.1.2 trivial⟩, qk_t S.2.2.1, S.2.2.2⟩ E)
theorem V_astore_n (n : Nat) {v : Option (Nat × Nat)} {i : Fin 4} (hd : decode cc pc = .ok (.astore_n i, 1)) (hn : pc + 1 = n) (hi : (i : Nat) < nL) (k : Vw y cc nL ret R mc ms n0 Post n (qst L (i : Nat) (.inr (.inr v))) st h cells slots) : Vw y cc nL ret R mc ms n0 Post pc L ((.inr (.inr v)) :: st) h cells slots := by
  subst hn
  intro p l e s m args below meth c Q D sz ρ0 ρ H locs ls X S E
  have kk := fun ls hl => k p l e s m args below meth c Q D sz ρ0 ρ H locs ls X ⟨S.1, ⟨hl, qst_cl S.2.1.2 (qk_h S.2.2.1)⟩, qk_t S.2.2.1, S.2.2.2⟩ E
  cases v with
  | some a => exact lv_astore_n X.1 X.2.1 hd rfl S.2.1.1 hi (qst_map ρ L (i : Nat) (.inr (.inr (some a)))).symm kk
  | none => exact lv_astore_nN X.1 X.2.1 hd rfl S.2.1.1 hi (qst_map ρ L (i : Nat) (.inr (.inr none))).symm kk
theorem V_astore (n : Nat) {v : Option (Nat × Nat)} {i : Nat} (hd : decode cc pc = .ok (.astore i, 2)) (hn : pc + 2 = n) (hi : i < nL) (k : Vw y cc nL ret R mc ms n0 Post n (qst L i (.inr (.inr v))) st h cells slots) : Vw y cc nL ret R mc ms n0 Post pc L ((.inr (.inr v)) :: st) h cells slots := by
  subst hn
  intro p l e s m args below meth c Q D sz ρ0 ρ H locs ls X S E
  have kk := fun ls hl => k p l e s m args below meth c Q D sz ρ0 ρ H locs ls X ⟨S.1, ⟨hl, qst_cl S.2.1.2 (qk_h S.2.2.1)⟩, qk_t S.2.2.1, S.2.2.2⟩ E
  cases v with
  | some a => exact lv_astore X.1 X.2.1 hd S.2.1.1 hi (qst_map ρ L i (.inr (.inr (some a)))).symm kk
  | none => exact lv_astoreN X.1 X.2.1 hd S.2.1.1 hi (qst_map ρ L i (.inr (.inr none))).symm kk
theorem V_iinc (n : Nat) {i : Nat} {d : Int} {x v : Int32} (hd : decode cc pc = .ok (.iinc i d, 3)) (hn : pc + 3 = n) (hl : qlk L i = some (.inl x)) (hv : x + Int32.ofInt d = v) (hi : i < nL) (k : Vw y cc nL ret R mc ms n0 Post n (qst L i (.inl v)) st h cells slots) : Vw y cc nL ret R mc ms n0 Post pc L st h cells slots := by
  subst hn
  intro p l e s m args below meth c Q D sz ρ0 ρ H locs ls X S E
  obtain ⟨j, hj⟩ := List.getElem?_of_mem (List.mem_map.mpr ⟨(i, _), qlk_mem hl, rfl⟩ : ((i, qc_v ρ (.inl x)) : Nat × Value) ∈ L.map (fun q => (q.1, qc_v ρ q.2)))
  exact lv_iinc X.1 X.2.1 hd S.2.1.1 hj hv hi (qst_map ρ L i (.inl v)).symm (fun ls hl => k p l e s m args below meth c Q D sz ρ0 ρ H locs ls X ⟨S.1, ⟨hl, qst_cl S.2.1.2 trivial⟩, S.2.2⟩ E)
theorem V_iadd (n : Nat) {x z : Int32} (hd : decode cc pc = .ok (.iadd, 1)) (hn : pc + 1 = n) (k : Vw y cc nL ret R mc ms n0 Post n L ((.inl (x + z)) :: st) h cells slots) : Vw y cc nL ret R mc ms n0 Post pc L ((.inl z) :: (.inl x) :: st) h cells slots := by
  subst hn
  intro p l e s m args below meth c Q D sz ρ0 ρ H locs ls X S E
  exact lv_iadd X.1 X.2.1 hd (k p l e s m args below meth c Q D sz ρ0 ρ H locs ls X (S.stk (fun z => qk_c trivial (qk_t (qk_t z)))) E)
theorem V_isub (n : Nat) {x z : Int32} (hd : decode cc pc = .ok (.isub, 1)) (hn : pc + 1 = n) (k : Vw y cc nL ret R mc ms n0 Post n L ((.inl (x - z)) :: st) h cells slots) : Vw y cc nL ret R mc ms n0 Post pc L ((.inl z) :: (.inl x) :: st) h cells slots := by
  subst hn
  intro p l e s m args below meth c Q D sz ρ0 ρ H locs ls X S E
  exact lv_isub X.1 X.2.1 hd (k p l e s m args below meth c Q D sz ρ0 ρ H locs ls X (S.stk (fun z => qk_c trivial (qk_t (qk_t z)))) E)
theorem V_imul (n : Nat) {x z : Int32} (hd : decode cc pc = .ok (.imul, 1)) (hn : pc + 1 = n) (k : Vw y cc nL ret R mc ms n0 Post n L ((.inl (x * z)) :: st) h cells slots) : Vw y cc nL ret R mc ms n0 Post pc L ((.inl z) :: (.inl x) :: st) h cells slots := by
  subst hn
  intro p l e s m args below meth c Q D sz ρ0 ρ H locs ls X S E
  exact lv_imul X.1 X.2.1 hd (k p l e s m args below meth c Q D sz ρ0 ρ H locs ls X (S.stk (fun z => qk_c trivial (qk_t (qk_t z)))) E)
theorem V_iand (n : Nat) {x z : Int32} (hd : decode cc pc = .ok (.iand, 1)) (hn : pc + 1 = n) (k : Vw y cc nL ret R mc ms n0 Post n L ((.inl (x &&& z)) :: st) h cells slots) : Vw y cc nL ret R mc ms n0 Post pc L ((.inl z) :: (.inl x) :: st) h cells slots := by
  subst hn
  intro p l e s m args below meth c Q D sz ρ0 ρ H locs ls X S E
  exact lv_iand X.1 X.2.1 hd (k p l e s m args below meth c Q D sz ρ0 ρ H locs ls X (S.stk (fun z => qk_c trivial (qk_t (qk_t z)))) E)
theorem V_idiv (n : Nat) {x z : Int32} (hd : decode cc pc = .ok (.idiv, 1)) (hn : pc + 1 = n) (hz : ¬ z = 0) (k : Vw y cc nL ret R mc ms n0 Post n L ((.inl (x / z)) :: st) h cells slots) : Vw y cc nL ret R mc ms n0 Post pc L ((.inl z) :: (.inl x) :: st) h cells slots := by
  subst hn
  intro p l e s m args below meth c Q D sz ρ0 ρ H locs ls X S E
  exact lv_idiv X.1 X.2.1 hd hz (k p l e s m args below meth c Q D sz ρ0 ρ H locs ls X (S.stk (fun z => qk_c trivial (qk_t (qk_t z)))) E)
theorem V_irem (n : Nat) {x z : Int32} (hd : decode cc pc = .ok (.irem, 1)) (hn : pc + 1 = n) (hz : ¬ z = 0) (k : Vw y cc nL ret R mc ms n0 Post n L ((.inl (x - x / z * z)) :: st) h cells slots) : Vw y cc nL ret R mc ms n0 Post pc L ((.inl z) :: (.inl x) :: st) h cells slots := by
  subst hn
  intro p l e s m args below meth c Q D sz ρ0 ρ H locs ls X S E
  exact lv_irem X.1 X.2.1 hd hz (k p l e s m args below meth c Q D sz ρ0 ρ H locs ls X (S.stk (fun z => qk_c trivial (qk_t (qk_t z)))) E)
theorem V_ladd (n : Nat) {x z : Int64} (hd : decode cc pc = .ok (.ladd, 1)) (hn : pc + 1 = n) (k : Vw y cc nL ret R mc ms n0 Post n L ((.inr (.inl (x + z))) :: st) h cells slots) : Vw y cc nL ret R mc ms n0 Post pc L ((.inr (.inl z)) :: (.inr (.inl x)) :: st) h cells slots := by
  subst hn
  intro p l e s m args below meth c Q D sz ρ0 ρ H locs ls X S E
  exact lv_ladd X.1 X.2.1 hd (k p l e s m args below meth c Q D sz ρ0 ρ H locs ls X (S.stk (fun z => qk_c trivial (qk_t (qk_t z)))) E)
theorem V_lsub (n : Nat) {x z : Int64} (hd : decode cc pc = .ok (.lsub, 1)) (hn : pc + 1 = n) (k : Vw y cc nL ret R mc ms n0 Post n L ((.inr (.inl (x - z))) :: st) h cells slots) : Vw y cc nL ret R mc ms n0 Post pc L ((.inr (.inl z)) :: (.inr (.inl x)) :: st) h cells slots := by
  subst hn
  intro p l e s m args below meth c Q D sz ρ0 ρ H locs ls X S E
  exact lv_lsub X.1 X.2.1 hd (k p l e s m args below meth c Q D sz ρ0 ρ H locs ls X (S.stk (fun z => qk_c trivial (qk_t (qk_t z)))) E)
theorem V_lmul (n : Nat) {x z : Int64} (hd : decode cc pc = .ok (.lmul, 1)) (hn : pc + 1 = n) (k : Vw y cc nL ret R mc ms n0 Post n L ((.inr (.inl (x * z))) :: st) h cells slots) : Vw y cc nL ret R mc ms n0 Post pc L ((.inr (.inl z)) :: (.inr (.inl x)) :: st) h cells slots := by
  subst hn
  intro p l e s m args below meth c Q D sz ρ0 ρ H locs ls X S E
  exact lv_lmul X.1 X.2.1 hd (k p l e s m args below meth c Q D sz ρ0 ρ H locs ls X (S.stk (fun z => qk_c trivial (qk_t (qk_t z)))) E)
theorem V_land (n : Nat) {x z : Int64} (hd : decode cc pc = .ok (.land, 1)) (hn : pc + 1 = n) (k : Vw y cc nL ret R mc ms n0 Post n L ((.inr (.inl (x &&& z))) :: st) h cells slots) : Vw y cc nL ret R mc ms n0 Post pc L ((.inr (.inl z)) :: (.inr (.inl x)) :: st) h cells slots := by
  subst hn
  intro p l e s m args below meth c Q D sz ρ0 ρ H locs ls X S E
  exact lv_land X.1 X.2.1 hd (k p l e s m args below meth c Q D sz ρ0 ρ H locs ls X (S.stk (fun z => qk_c trivial (qk_t (qk_t z)))) E)
theorem V_lor (n : Nat) {x z : Int64} (hd : decode cc pc = .ok (.lor, 1)) (hn : pc + 1 = n) (k : Vw y cc nL ret R mc ms n0 Post n L ((.inr (.inl (x ||| z))) :: st) h cells slots) : Vw y cc nL ret R mc ms n0 Post pc L ((.inr (.inl z)) :: (.inr (.inl x)) :: st) h cells slots := by
  subst hn
  intro p l e s m args below meth c Q D sz ρ0 ρ H locs ls X S E
  exact lv_lor X.1 X.2.1 hd (k p l e s m args below meth c Q D sz ρ0 ρ H locs ls X (S.stk (fun z => qk_c trivial (qk_t (qk_t z)))) E)
theorem V_lxor (n : Nat) {x z : Int64} (hd : decode cc pc = .ok (.lxor, 1)) (hn : pc + 1 = n) (k : Vw y cc nL ret R mc ms n0 Post n L ((.inr (.inl (x ^^^ z))) :: st) h cells slots) : Vw y cc nL ret R mc ms n0 Post pc L ((.inr (.inl z)) :: (.inr (.inl x)) :: st) h cells slots := by
  subst hn
  intro p l e s m args below meth c Q D sz ρ0 ρ H locs ls X S E
  exact lv_lxor X.1 X.2.1 hd (k p l e s m args below meth c Q D sz ρ0 ρ H locs ls X (S.stk (fun z => qk_c trivial (qk_t (qk_t z)))) E)
theorem V_ldiv (n : Nat) {x z : Int64} (hd : decode cc pc = .ok (.ldiv, 1)) (hn : pc + 1 = n) (hz : ¬ z = 0) (k : Vw y cc nL ret R mc ms n0 Post n L ((.inr (.inl (x / z))) :: st) h cells slots) : Vw y cc nL ret R mc ms n0 Post pc L ((.inr (.inl z)) :: (.inr (.inl x)) :: st) h cells slots := by
  subst hn
  intro p l e s m args below meth c Q D sz ρ0 ρ H locs ls X S E
  exact lv_ldiv X.1 X.2.1 hd hz (k p l e s m args below meth c Q D sz ρ0 ρ H locs ls X (S.stk (fun z => qk_c trivial (qk_t (qk_t z)))) E)
theorem V_lrem (n : Nat) {x z : Int64} (hd : decode cc pc = .ok (.lrem, 1)) (hn : pc + 1 = n) (hz : ¬ z = 0) (k : Vw y cc nL ret R mc ms n0 Post n L ((.inr (.inl (x - x / z * z))) :: st) h cells slots) : Vw y cc nL ret R mc ms n0 Post pc L ((.inr (.inl z)) :: (.inr (.inl x)) :: st) h cells slots := by
  subst hn
  intro p l e s m args below meth c Q D sz ρ0 ρ H locs ls X S E
  exact lv_lrem X.1 X.2.1 hd hz (k p l e s m args below meth c Q D sz ρ0 ρ H locs ls X (S.stk (fun z => qk_c trivial (qk_t (qk_t z)))) E)
theorem V_ineg (n : Nat) {x : Int32} (hd : decode cc pc = .ok (.ineg, 1)) (hn : pc + 1 = n) (k : Vw y cc nL ret R mc ms n0 Post n L ((.inl (-x)) :: st) h cells slots) : Vw y cc nL ret R mc ms n0 Post pc L ((.inl x) :: st) h cells slots := by
  subst hn
  intro p l e s m args below meth c Q D sz ρ0 ρ H locs ls X S E
  exact lv_ineg X.1 X.2.1 hd (k p l e s m args below meth c Q D sz ρ0 ρ H locs ls X (S.stk (fun z => qk_c trivial (qk_t z))) E)
theorem V_lneg (n : Nat) {x : Int64} (hd : decode cc pc = .ok (.lneg, 1)) (hn : pc + 1 = n) (k : Vw y cc nL ret R mc ms n0 Post n L ((.inr (.inl (-x))) :: st) h cells slots) : Vw y cc nL ret R mc ms n0 Post pc L ((.inr (.inl x)) :: st) h cells slots := by
  subst hn
  intro p l e s m args below meth c Q D sz ρ0 ρ H locs ls X S E
  exact lv_lneg X.1 X.2.1 hd (k p l e s m args below meth c Q D sz ρ0 ρ H locs ls X (S.stk (fun z => qk_c trivial (qk_t z))) E)
theorem V_i2l (n : Nat) {x : Int32} (hd : decode cc pc = .ok (.i2l, 1)) (hn : pc + 1 = n) (k : Vw y cc nL ret R mc ms n0 Post n L ((.inr (.inl x.toInt64)) :: st) h cells slots) : Vw y cc nL ret R mc ms n0 Post pc L ((.inl x) :: st) h cells slots := by
  subst hn
  intro p l e s m args below meth c Q D sz ρ0 ρ H locs ls X S E
  exact lv_i2l X.1 X.2.1 hd rfl (k p l e s m args below meth c Q D sz ρ0 ρ H locs ls X (S.stk (fun z => qk_c trivial (qk_t z))) E)
theorem V_l2i (n : Nat) {x : Int64} (hd : decode cc pc = .ok (.l2i, 1)) (hn : pc + 1 = n) (k : Vw y cc nL ret R mc ms n0 Post n L ((.inl x.toInt32) :: st) h cells slots) : Vw y cc nL ret R mc ms n0 Post pc L ((.inr (.inl x)) :: st) h cells slots := by
  subst hn
  intro p l e s m args below meth c Q D sz ρ0 ρ H locs ls X S E
  exact lv_l2i X.1 X.2.1 hd rfl (k p l e s m args below meth c Q D sz ρ0 ρ H locs ls X (S.stk (fun z => qk_c trivial (qk_t z))) E)
theorem V_lshl (n : Nat) {x : Int64} {z : Int32} (hd : decode cc pc = .ok (.lshl, 1)) (hn : pc + 1 = n) (k : Vw y cc nL ret R mc ms n0 Post n L ((.inr (.inl (x <<< (z.toInt64 &&& 63)))) :: st) h cells slots) : Vw y cc nL ret R mc ms n0 Post pc L ((.inl z) :: (.inr (.inl x)) :: st) h cells slots := by
  subst hn
  intro p l e s m args below meth c Q D sz ρ0 ρ H locs ls X S E
  exact lv_lshl X.1 X.2.1 hd rfl (k p l e s m args below meth c Q D sz ρ0 ρ H locs ls X (S.stk (fun z => qk_c trivial (qk_t (qk_t z)))) E)
theorem V_lcmp (n : Nat) {x z : Int64} (hd : decode cc pc = .ok (.lcmp, 1)) (hn : pc + 1 = n) (k : Vw y cc nL ret R mc ms n0 Post n L ((.inl (lg_cmp x z)) :: st) h cells slots) : Vw y cc nL ret R mc ms n0 Post pc L ((.inr (.inl z)) :: (.inr (.inl x)) :: st) h cells slots := by
  subst hn
  intro p l e s m args below meth c Q D sz ρ0 ρ H locs ls X S E
  exact W.lcmp X.1 X.2.1 hd (k p l e s m args below meth c Q D sz ρ0 ρ H locs ls X (S.stk (fun z => qk_c trivial (qk_t (qk_t z)))) E)
theorem V_dupi (n : Nat) {x : Int32} (hd : decode cc pc = .ok (.dup, 1)) (hn : pc + 1 = n) (k : Vw y cc nL ret R mc ms n0 Post n L ((.inl x) :: (.inl x) :: st) h cells slots) : Vw y cc nL ret R mc ms n0 Post pc L ((.inl x) :: st) h cells slots := by
  subst hn
  intro p l e s m args below meth c Q D sz ρ0 ρ H locs ls X S E
  exact lv_dup X.1 X.2.1 hd rfl (k p l e s m args below meth c Q D sz ρ0 ρ H locs ls X (S.stk (fun z => qk_c trivial z)) E)
theorem V_dup (n : Nat) {v : Option (Nat × Nat)} (hd : decode cc pc = .ok (.dup, 1)) (hn : pc + 1 = n) (k : Vw y cc nL ret R mc ms n0 Post n L ((.inr (.inr v)) :: (.inr (.inr v)) :: st) h cells slots) : Vw y cc nL ret R mc ms n0 Post pc L ((.inr (.inr v)) :: st) h cells slots := by
  subst hn
  intro p l e s m args below meth c Q D sz ρ0 ρ H locs ls X S E
  exact lv_dup X.1 X.2.1 hd (by cases v <;> rfl) (k p l e s m args below meth c Q D sz ρ0 ρ H locs ls X (S.stk (fun z => qk_c (qk_h z) z)) E)
theorem V_pop (n : Nat) {x : Int32} (hd : decode cc pc = .ok (.pop, 1)) (hn : pc + 1 = n) (k : Vw y cc nL ret R mc ms n0 Post n L st h cells slots) : Vw y cc nL ret R mc ms n0 Post pc L (.inl x :: st) h cells slots := by
  subst hn
  intro p l e s m args below meth c Q D sz ρ0 ρ H locs ls X S E
  exact lv_pop X.1 X.2.1 hd rfl (k p l e s m args below meth c Q D sz ρ0 ρ H locs ls X (S.stk (fun z => qk_t z)) E)
theorem V_dup2 (n : Nat) {x : Int32} {v : Option (Nat × Nat)} (hd : decode cc pc = .ok (.dup2, 1)) (hn : pc + 1 = n) (k : Vw y cc nL ret R mc ms n0 Post n L (.inl x :: (.inr (.inr v)) :: .inl x :: (.inr (.inr v)) :: st) h cells slots) : Vw y cc nL ret R mc ms n0 Post pc L (.inl x :: (.inr (.inr v)) :: st) h cells slots := by
  subst hn
  intro p l e s m args below meth c Q D sz ρ0 ρ H locs ls X S E
  exact lv_dup2_11 X.1 X.2.1 hd rfl (by cases v <;> rfl) (k p l e s m args below meth c Q D sz ρ0 ρ H locs ls X (S.stk (fun z => qk_c trivial (qk_c (qk_h (qk_t z)) z))) E)
theorem V_if_eq (t n : Nat) {x : Int32} {off : Int} (hd : decode cc pc = .ok (.ifCond .eq off, 3)) (ht : (pc : Int) + off = (t : Int)) (hn : pc + 3 = n) (kt : x = 0 → Vw y cc nL ret R mc ms n0 Post t L st h cells slots) (kf : ¬ x = 0 → Vw y cc nL ret R mc ms n0 Post n L st h cells slots) : Vw y cc nL ret R mc ms n0 Post pc L (.inl x :: st) h cells slots := by
  subst hn
  intro p l e s m args below meth c Q D sz ρ0 ρ H locs ls X S E
  exact lv_if_eq X.1 X.2.1 hd ht (fun q => kt q p l e s m args below meth c Q D sz ρ0 ρ H locs ls X (S.stk (fun z => qk_t z)) E) (fun q => kf q p l e s m args below meth c Q D sz ρ0 ρ H locs ls X (S.stk (fun z => qk_t z)) E)
theorem V_icmp_eq (t n : Nat) {x z : Int32} {off : Int} (hd : decode cc pc = .ok (.if_icmp .eq off, 3)) (ht : (pc : Int) + off = (t : Int)) (hn : pc + 3 = n) (kt : x = z → Vw y cc nL ret R mc ms n0 Post t L st h cells slots) (kf : ¬ x = z → Vw y cc nL ret R mc ms n0 Post n L st h cells slots) : Vw y cc nL ret R mc ms n0 Post pc L (.inl z :: .inl x :: st) h cells slots := by
  subst hn
  intro p l e s m args below meth c Q D sz ρ0 ρ H locs ls X S E
  exact lv_icmp_eq X.1 X.2.1 hd ht (fun q => kt q p l e s m args below meth c Q D sz ρ0 ρ H locs ls X (S.stk (fun z => qk_t (qk_t z))) E) (fun q => kf q p l e s m args below meth c Q D sz ρ0 ρ H locs ls X (S.stk (fun z => qk_t (qk_t z))) E)
theorem V_if_ne (t n : Nat) {x : Int32} {off : Int} (hd : decode cc pc = .ok (.ifCond .ne off, 3)) (ht : (pc : Int) + off = (t : Int)) (hn : pc + 3 = n) (kt : ¬ x = 0 → Vw y cc nL ret R mc ms n0 Post t L st h cells slots) (kf : x = 0 → Vw y cc nL ret R mc ms n0 Post n L st h cells slots) : Vw y cc nL ret R mc ms n0 Post pc L (.inl x :: st) h cells slots := by
  subst hn
  intro p l e s m args below meth c Q D sz ρ0 ρ H locs ls X S E
  exact lv_if_ne X.1 X.2.1 hd ht (fun q => kt q p l e s m args below meth c Q D sz ρ0 ρ H locs ls X (S.stk (fun z => qk_t z)) E) (fun q => kf q p l e s m args below meth c Q D sz ρ0 ρ H locs ls X (S.stk (fun z => qk_t z)) E)
theorem V_icmp_ne (t n : Nat) {x z : Int32} {off : Int} (hd : decode cc pc = .ok (.if_icmp .ne off, 3)) (ht : (pc : Int) + off = (t : Int)) (hn : pc + 3 = n) (kt : ¬ x = z → Vw y cc nL ret R mc ms n0 Post t L st h cells slots) (kf : x = z → Vw y cc nL ret R mc ms n0 Post n L st h cells slots) : Vw y cc nL ret R mc ms n0 Post pc L (.inl z :: .inl x :: st) h cells slots := by
  subst hn
  intro p l e s m args below meth c Q D sz ρ0 ρ H locs ls X S E
  exact lv_icmp_ne X.1 X.2.1 hd ht (fun q => kt q p l e s m args below meth c Q D sz ρ0 ρ H locs ls X (S.stk (fun z => qk_t (qk_t z))) E) (fun q => kf q p l e s m args below meth c Q D sz ρ0 ρ H locs ls X (S.stk (fun z => qk_t (qk_t z))) E)
theorem V_if_lt (t n : Nat) {x : Int32} {off : Int} (hd : decode cc pc = .ok (.ifCond .lt off, 3)) (ht : (pc : Int) + off = (t : Int)) (hn : pc + 3 = n) (kt : x < 0 → Vw y cc nL ret R mc ms n0 Post t L st h cells slots) (kf : ¬ x < 0 → Vw y cc nL ret R mc ms n0 Post n L st h cells slots) : Vw y cc nL ret R mc ms n0 Post pc L (.inl x :: st) h cells slots := by
  subst hn
  intro p l e s m args below meth c Q D sz ρ0 ρ H locs ls X S E
  exact lv_if_lt X.1 X.2.1 hd ht (fun q => kt q p l e s m args below meth c Q D sz ρ0 ρ H locs ls X (S.stk (fun z => qk_t z)) E) (fun q => kf q p l e s m args below meth c Q D sz ρ0 ρ H locs ls X (S.stk (fun z => qk_t z)) E)
theorem V_icmp_lt (t n : Nat) {x z : Int32} {off : Int} (hd : decode cc pc = .ok (.if_icmp .lt off, 3)) (ht : (pc : Int) + off = (t : Int)) (hn : pc + 3 = n) (kt : x < z → Vw y cc nL ret R mc ms n0 Post t L st h cells slots) (kf : ¬ x < z → Vw y cc nL ret R mc ms n0 Post n L st h cells slots) : Vw y cc nL ret R mc ms n0 Post pc L (.inl z :: .inl x :: st) h cells slots := by
  subst hn
  intro p l e s m args below meth c Q D sz ρ0 ρ H locs ls X S E
  exact lv_icmp_lt X.1 X.2.1 hd ht (fun q => kt q p l e s m args below meth c Q D sz ρ0 ρ H locs ls X (S.stk (fun z => qk_t (qk_t z))) E) (fun q => kf q p l e s m args below meth c Q D sz ρ0 ρ H locs ls X (S.stk (fun z => qk_t (qk_t z))) E)
theorem V_if_ge (t n : Nat) {x : Int32} {off : Int} (hd : decode cc pc = .ok (.ifCond .ge off, 3)) (ht : (pc : Int) + off = (t : Int)) (hn : pc + 3 = n) (kt : 0 ≤ x → Vw y cc nL ret R mc ms n0 Post t L st h cells slots) (kf : ¬ 0 ≤ x → Vw y cc nL ret R mc ms n0 Post n L st h cells slots) : Vw y cc nL ret R mc ms n0 Post pc L (.inl x :: st) h cells slots := by
  subst hn
  intro p l e s m args below meth c Q D sz ρ0 ρ H locs ls X S E
  exact lv_if_ge X.1 X.2.1 hd ht (fun q => kt q p l e s m args below meth c Q D sz ρ0 ρ H locs ls X (S.stk (fun z => qk_t z)) E) (fun q => kf q p l e s m args below meth c Q D sz ρ0 ρ H locs ls X (S.stk (fun z => qk_t z)) E)
theorem V_icmp_ge (t n : Nat) {x z : Int32} {off : Int} (hd : decode cc pc = .ok (.if_icmp .ge off, 3)) (ht : (pc : Int) + off = (t : Int)) (hn : pc + 3 = n) (kt : z ≤ x → Vw y cc nL ret R mc ms n0 Post t L st h cells slots) (kf : ¬ z ≤ x → Vw y cc nL ret R mc ms n0 Post n L st h cells slots) : Vw y cc nL ret R mc ms n0 Post pc L (.inl z :: .inl x :: st) h cells slots := by
  subst hn
  intro p l e s m args below meth c Q D sz ρ0 ρ H locs ls X S E
  exact lv_icmp_ge X.1 X.2.1 hd ht (fun q => kt q p l e s m args below meth c Q D sz ρ0 ρ H locs ls X (S.stk (fun z => qk_t (qk_t z))) E) (fun q => kf q p l e s m args below meth c Q D sz ρ0 ρ H locs ls X (S.stk (fun z => qk_t (qk_t z))) E)
theorem V_if_gt (t n : Nat) {x : Int32} {off : Int} (hd : decode cc pc = .ok (.ifCond .gt off, 3)) (ht : (pc : Int) + off = (t : Int)) (hn : pc + 3 = n) (kt : 0 < x → Vw y cc nL ret R mc ms n0 Post t L st h cells slots) (kf : ¬ 0 < x → Vw y cc nL ret R mc ms n0 Post n L st h cells slots) : Vw y cc nL ret R mc ms n0 Post pc L (.inl x :: st) h cells slots := by
  subst hn
  intro p l e s m args below meth c Q D sz ρ0 ρ H locs ls X S E
  exact lv_if_gt X.1 X.2.1 hd ht (fun q => kt q p l e s m args below meth c Q D sz ρ0 ρ H locs ls X (S.stk (fun z => qk_t z)) E) (fun q => kf q p l e s m args below meth c Q D sz ρ0 ρ H locs ls X (S.stk (fun z => qk_t z)) E)
theorem V_icmp_gt (t n : Nat) {x z : Int32} {off : Int} (hd : decode cc pc = .ok (.if_icmp .gt off, 3)) (ht : (pc : Int) + off = (t : Int)) (hn : pc + 3 = n) (kt : z < x → Vw y cc nL ret R mc ms n0 Post t L st h cells slots) (kf : ¬ z < x → Vw y cc nL ret R mc ms n0 Post n L st h cells slots) : Vw y cc nL ret R mc ms n0 Post pc L (.inl z :: .inl x :: st) h cells slots := by
  subst hn
  intro p l e s m args below meth c Q D sz ρ0 ρ H locs ls X S E
  exact lv_icmp_gt X.1 X.2.1 hd ht (fun q => kt q p l e s m args below meth c Q D sz ρ0 ρ H locs ls X (S.stk (fun z => qk_t (qk_t z))) E) (fun q => kf q p l e s m args below meth c Q D sz ρ0 ρ H locs ls X (S.stk (fun z => qk_t (qk_t z))) E)
theorem V_if_le (t n : Nat) {x : Int32} {off : Int} (hd : decode cc pc = .ok (.ifCond .le off, 3)) (ht : (pc : Int) + off = (t : Int)) (hn : pc + 3 = n) (kt : x ≤ 0 → Vw y cc nL ret R mc ms n0 Post t L st h cells slots) (kf : ¬ x ≤ 0 → Vw y cc nL ret R mc ms n0 Post n L st h cells slots) : Vw y cc nL ret R mc ms n0 Post pc L (.inl x :: st) h cells slots := by
  subst hn
  intro p l e s m args below meth c Q D sz ρ0 ρ H locs ls X S E
  exact lv_if_le X.1 X.2.1 hd ht (fun q => kt q p l e s m args below meth c Q D sz ρ0 ρ H locs ls X (S.stk (fun z => qk_t z)) E) (fun q => kf q p l e s m args below meth c Q D sz ρ0 ρ H locs ls X (S.stk (fun z => qk_t z)) E)
theorem V_icmp_le (t n : Nat) {x z : Int32} {off : Int} (hd : decode cc pc = .ok (.if_icmp .le off, 3)) (ht : (pc : Int) + off = (t : Int)) (hn : pc + 3 = n) (kt : x ≤ z → Vw y cc nL ret R mc ms n0 Post t L st h cells slots) (kf : ¬ x ≤ z → Vw y cc nL ret R mc ms n0 Post n L st h cells slots) : Vw y cc nL ret R mc ms n0 Post pc L (.inl z :: .inl x :: st) h cells slots := by
  subst hn
  intro p l e s m args below meth c Q D sz ρ0 ρ H locs ls X S E
  exact lv_icmp_le X.1 X.2.1 hd ht (fun q => kt q p l e s m args below meth c Q D sz ρ0 ρ H locs ls X (S.stk (fun z => qk_t (qk_t z))) E) (fun q => kf q p l e s m args below meth c Q D sz ρ0 ρ H locs ls X (S.stk (fun z => qk_t (qk_t z))) E)
theorem V_goto (t : Nat) {off : Int} (hd : decode cc pc = .ok (.goto off, 3)) (ht : (pc : Int) + off = (t : Int)) (k : Vw y cc nL ret R mc ms n0 Post t L st h cells slots) : Vw y cc nL ret R mc ms n0 Post pc L st h cells slots := by
  intro p l e s m args below meth c Q D sz ρ0 ρ H locs ls X S E
  exact lv_goto X.1 X.2.1 hd ht (k p l e s m args below meth c Q D sz ρ0 ρ H locs ls X S E)
theorem V_ifnull (t n : Nat) {v : Option (Nat × Nat)} {off : Int} (hd : decode cc pc = .ok (.ifnull off, 3)) (ht : (pc : Int) + off = (t : Int)) (hn : pc + 3 = n) (kt : v = none → Vw y cc nL ret R mc ms n0 Post t L st h cells slots) (kf : ∀ a, v = some a → Vw y cc nL ret R mc ms n0 Post n L st h cells slots) : Vw y cc nL ret R mc ms n0 Post pc L ((.inr (.inr v)) :: st) h cells slots := by
  subst hn
  intro p l e s m args below meth c Q D sz ρ0 ρ H locs ls X S E
  cases v with
  | none => exact lv_ifnullN X.1 X.2.1 hd ht (kt rfl p l e s m args below meth c Q D sz ρ0 ρ H locs ls X (S.stk (fun z => qk_t z)) E)
  | some a => exact lv_ifnull X.1 X.2.1 hd (kf a rfl p l e s m args below meth c Q D sz ρ0 ρ H locs ls X (S.stk (fun z => qk_t z)) E)
theorem V_ifnonnull (t n : Nat) {v : Option (Nat × Nat)} {off : Int} (hd : decode cc pc = .ok (.ifnonnull off, 3)) (ht : (pc : Int) + off = (t : Int)) (hn : pc + 3 = n) (kt : v = none → Vw y cc nL ret R mc ms n0 Post n L st h cells slots) (kf : ∀ a, v = some a → Vw y cc nL ret R mc ms n0 Post t L st h cells slots) : Vw y cc nL ret R mc ms n0 Post pc L ((.inr (.inr v)) :: st) h cells slots := by
  subst hn
  intro p l e s m args below meth c Q D sz ρ0 ρ H locs ls X S E
  cases v with
  | none => exact lv_ifnonnullN X.1 X.2.1 hd (kt rfl p l e s m args below meth c Q D sz ρ0 ρ H locs ls X (S.stk (fun z => qk_t z)) E)
  | some a => exact lv_ifnonnull X.1 X.2.1 hd ht (kf a rfl p l e s m args below meth c Q D sz ρ0 ρ H locs ls X (S.stk (fun z => qk_t z)) E)
theorem V_tabIn (t : Nat) {dflt lo hi : Int} {offs : Array Int} {len : Nat} {x : Int32} {off : Int} (hd : decode cc pc = .ok (.tableswitch dflt lo hi offs, len)) (h1 : ¬ x.toInt < lo) (h2 : ¬ hi < x.toInt) (ho : offs[(x.toInt - lo).toNat]? = some off) (ht : (pc : Int) + off = (t : Int)) (k : Vw y cc nL ret R mc ms n0 Post t L st h cells slots) : Vw y cc nL ret R mc ms n0 Post pc L (.inl x :: st) h cells slots := by
  intro p l e s m args below meth c Q D sz ρ0 ρ H locs ls X S E
  exact lv_tableIn X.1 X.2.1 hd h1 h2 ho ht (k p l e s m args below meth c Q D sz ρ0 ρ H locs ls X (S.stk (fun z => qk_t z)) E)
theorem V_tabOut (t : Nat) {dflt lo hi : Int} {offs : Array Int} {len : Nat} {x : Int32} (hd : decode cc pc = .ok (.tableswitch dflt lo hi offs, len)) (h1 : x.toInt < lo ∨ hi < x.toInt) (ht : (pc : Int) + dflt = (t : Int)) (k : Vw y cc nL ret R mc ms n0 Post t L st h cells slots) : Vw y cc nL ret R mc ms n0 Post pc L (.inl x :: st) h cells slots := by
  intro p l e s m args below meth c Q D sz ρ0 ρ H locs ls X S E
  exact lv_tableOut X.1 X.2.1 hd h1 ht (k p l e s m args below meth c Q D sz ρ0 ρ H locs ls X (S.stk (fun z => qk_t z)) E)
end VW
end
section
/-! Rows of fields, arrays, new objects -/
theorem qz_and (x : Int32) : x &&& 1 = 0 ∨ x &&& 1 = 1 := by
  obtain ⟨j, hj, e⟩ := pk_andE x (m := 1) 1 rfl
  rw [e]
  rcases (show j = 0 ∨ j = 1 by omega) with rfl | rfl
  · exact Or.inl rfl
  · exact Or.inr rfl
theorem qz_fit {x : Int32} (hx : narrow .boolean (.int x) = .int x) : fits .boolean (.int x) = true := by
  rw [← hx]
  simp [narrow, fits]
  exact qz_and x
theorem rg_ing : ∀ c, c < 9 → ∀ w ∈ u_ws (rg_C c) (rg_T c) (rg_N c), w ∈ lw_good := fun c hc w hw => by
  refine gd_in (rg_in c hc w hw) ?_
  obtain ⟨k, -, rfl⟩ := List.mem_map.mp hw
  unfold u_lay
  split <;> rfl
theorem qf_vi {ρ : Nat → Nat → Nat} {h : qH} {r i k j : Nat} {x : Int32} (hj : j ≠ k) (ty : FieldType) : qf_v ρ (qs_i h r i k x) ty r i j = qf_v ρ h ty r i j := by
  cases ty <;> simp [qf_v, qii, qli, qri, hj]
theorem qf_vl {ρ : Nat → Nat → Nat} {h : qH} {r i k j : Nat} {x : Int64} (hj : j ≠ k) (ty : FieldType) : qf_v ρ (qs_l h r i k x) ty r i j = qf_v ρ h ty r i j := by
  cases ty <;> simp [qf_v, qil, qll, qrl, hj]
theorem qf_vr {ρ : Nat → Nat → Nat} {h : qH} {r i k j : Nat} {x : Option (Nat × Nat)} (hj : j ≠ k) (ty : FieldType) : qf_v ρ (qs_r h r i k x) ty r i j = qf_v ρ h ty r i j := by
  cases ty <;> simp [qf_v, qir, qlr, qrr, hj]
theorem qo_i {h : qH} {r i k : Nat} {x : Int32} (r' i' : Nat) (e : ¬ (r' = r ∧ i' = i)) : qg_i (qs_i h r i k x) r' i' = qg_i h r' i' ∧ qg_l (qs_i h r i k x) r' i' = qg_l h r' i' ∧ qg_r (qs_i h r i k x) r' i' = qg_r h r' i' :=
  ⟨funext fun c => by rw [qii, if_neg (fun z => e ⟨z.1, z.2.1⟩)], rfl, rfl⟩
theorem qo_l {h : qH} {r i k : Nat} {x : Int64} (r' i' : Nat) (e : ¬ (r' = r ∧ i' = i)) : qg_i (qs_l h r i k x) r' i' = qg_i h r' i' ∧ qg_l (qs_l h r i k x) r' i' = qg_l h r' i' ∧ qg_r (qs_l h r i k x) r' i' = qg_r h r' i' :=
  ⟨rfl, funext fun c => by rw [qll, if_neg (fun z => e ⟨z.1, z.2.1⟩)], rfl⟩
theorem qo_r {h : qH} {r i k : Nat} {x : Option (Nat × Nat)} (r' i' : Nat) (e : ¬ (r' = r ∧ i' = i)) : qg_i (qs_r h r i k x) r' i' = qg_i h r' i' ∧ qg_l (qs_r h r i k x) r' i' = qg_l h r' i' ∧ qg_r (qs_r h r i k x) r' i' = qg_r h r' i' :=
  ⟨rfl, rfl, funext fun c => by rw [qrr, if_neg (fun z => e ⟨z.1, z.2.1⟩)]⟩
section QW
variable {p : Program} {l : Launch} {e : Env} {R : Room} {s : State} {m : MethodId} {args : Array Value} {below : List Frame} {meth : Method} {c0 : Code} {Q : State → Prop} {y : MethodName} {cc : ByteArray} {nL : Nat} {ret : Option FieldType} {D : va_G} {sz : Nat} {ρ : Nat → Nat → Nat} {h : qH} {H : Heap} {locs : List Loc} {cells slots pc : Nat} {ls : Array Slot} {rest : List Value} {r i c k idx : Nat}
theorem qw_get (X : qX y cc nL ret p s m args meth c0) (A : qa_R D sz ρ h s H) (hr : r ≠ 0) (hi : i < qg_n h r) (hk : rg_k r = .inl c) (hkN : k < rg_N c) (hw : Cond.fieldLink y.cls idx (rg_T c k).1 (rg_T c k).2.1 (rg_T c k).2.2.1 ∈ lw_tbl) (hd : decode cc pc = .ok (.getfield idx, 3))
    (kk : W p l e R s m args below meth c0 H locs cells slots Q (F0 m (pc + 3) ls (qf_v ρ h (rg_t c k) r i k :: rest))) : W p l e R s m args below meth c0 H locs cells slots Q (F0 m pc ls (.ref (ρ r i) :: rest)) := by
  obtain ⟨hc9, cell, q1, q2, q3, q4⟩ := (qa_at_o hk).mp (A.1 r i hi hr).1
  obtain ⟨hS, hfc, kC, hkC, hkind⟩ := A.2.2.2.2.1.1.1 c _ (rg_cl c hc9)
  obtain ⟨cf, kf, fi, f, hf, hsl⟩ := hS k hkN
  refine W.getf X.1 X.2.1 X.2.2.2.1 (X.2.2.2.2.1 _ (gd_in hw rfl)) hf (u_facts hfc hkC (u_lays X.2.2.2.2.1 (rg_ing c hc9) hkN) hf).1 q1 (by rw [q3]; exact fun z => by cases z) (v := qf_v ρ h (rg_t c k) r i k) ?_ rfl rfl hd kk
  rw [hsl, q4 k hkN]
theorem qw_put (X : qX y cc nL ret p s m args meth c0) (A : qa_R D sz ρ h s H) (hS0 : va_S (fun q => sz ≤ q) s.heap H locs) (hr : r ≠ 0) (hi : i < qg_n h r) (hk : rg_k r = .inl c) (hkN : k < rg_N c) (hw : Cond.fieldLink y.cls idx (rg_T c k).1 (rg_T c k).2.1 (rg_T c k).2.2.1 ∈ lw_tbl) (hfin : (rg_T c k).2.2.2 = false ∨ (y.name = "<init>" ∧ (rg_T c k).1 = y.cls)) {v : Value} (hn : narrow (rg_t c k) v = v) (hfit : fits (rg_t c k) v = true) (hd : decode cc pc = .ok (.putfield idx, 3))
    (kk : ∀ (H1 : Heap) (locs1 : List Loc), t_OB (ρ r i) (D.1 c) (rg_N c) (D.2 c) H1 (updV (fun j => qf_v ρ h (rg_t c j) r i j) k v) → H1.size = H.size → (∀ q : Nat, q ≠ ρ r i → H1[q]? = H[q]?) → va_S (fun q => sz ≤ q) s.heap H1 locs1 → W p l e R s m args below meth c0 H1 locs1 cells slots Q (F0 m (pc + 3) ls rest)) : W p l e R s m args below meth c0 H locs cells slots Q (F0 m pc ls (v :: .ref (ρ r i) :: rest)) := by
  obtain ⟨hat, hsz⟩ := A.1 r i hi hr
  obtain ⟨hc9, cell, q1, q2, q3, q4⟩ := (qa_at_o hk).mp hat
  have hK := A.2.2.2.2.1.1
  obtain ⟨hS, hfc, kC, hkC, hkind⟩ := hK.1 c _ (rg_cl c hc9)
  have hap := va_apart (own := y.cls) X.2.2.2.2.1 (rg_ing c hc9) (rg_t c) (rg_ty c hc9) (rg_nm c hc9) hK (rg_cl c hc9)
  obtain ⟨cf, kf, fi, f, hf, hsl⟩ := hS k hkN
  have hl := u_lays X.2.2.2.2.1 (rg_ing c hc9) hkN
  have hst := (u_facts hfc hkC hl hf).1
  have hlay := X.2.2.2.2.1 _ (rg_ing c hc9 _ (u_in_lay hkN))
  unfold u_lay at hlay
  have fin : ∀ H' : Heap, H'[ρ r i]? = some (cell.setSlot f.slot v) → H'.size = H.size → (∀ q, q ≠ ρ r i → H'[q]? = H[q]?) → W p l e R s m args below meth c0 H' (locs ++ [⟨ρ r i, f.slot⟩]) cells slots Q (F0 m (pc + 3) ls rest) := fun H' e1 e2 e3 => by
    rw [hsl] at e1 ⊢
    exact kk H' _ ⟨_, e1, q2, q3, t_set q4 hap hkN v⟩ e2 e3 (hS0.put e2 e3 hsz)
  by_cases hb : (rg_T c k).2.2.2 = true
  · rw [if_pos hb] at hlay
    have hf2 : y.name = "<init>" ∧ (rg_T c k).1 = y.cls := by
      rcases hfin with z | z
      · rw [hb] at z; cases z
      · exact z
    have hcf : m.cls = cf := by
      obtain ⟨_, _, c', _, _, _, -, -, hf', -, -, -, hown2, -⟩ := Cond.laysFinal_spec hlay
      have e1 : c' = cf := by have := hf.symm.trans hf'; simp at this; exact this.1.symm
      rw [hf2.2] at hown2
      rw [← e1]; exact Option.some.inj (X.2.2.2.1.symm.trans hown2)
    have h6 := u_fits hfc hkC hkind (Or.inr hlay) hf (rg_ty c hc9 k hkN) hn hfit
    exact W.putFinK X.1 X.2.1 X.2.2.2.1 (X.2.2.2.2.1 _ (gd_in hw rfl)) hf hst hcf (X.2.2.2.2.2.2.2.trans hf2.1) (by rw [q2]; exact h6) q1 q3 (by rw [hsl]; exact k2_hasslot (q4 k hkN)) rfl rfl hd fin
  · rw [if_neg hb] at hlay
    have h6 := u_store hfc hkC hkind hlay hf (rg_ty c hc9 k hkN) hn hfit
    exact W.putK X.1 X.2.1 (f := f) ⟨X.2.2.2.1, X.2.2.2.2.1 _ (gd_in hw rfl), ⟨_, _, _, hf⟩, hst⟩ (by rw [q2]; exact h6) q1 q3 (by rw [hsl]; exact k2_hasslot (q4 k hkN)) rfl rfl hd fin
end QW
section VH
variable {y : MethodName} {cc : ByteArray} {nL : Nat} {ret : Option FieldType} {R : Room} {mc ms : Nat} {n0 : Nat → Nat} {Post : Option qV → qH → Prop} {pc : Nat} {L : List (Nat × qV)} {st : List qV} {h : qH} {cells slots : Nat} {r i c k idx : Nat}
theorem V_geti (n : Nat) (c k : Nat) (hw : Cond.fieldLink y.cls idx (rg_T c k).1 (rg_T c k).2.1 (rg_T c k).2.2.1 ∈ lw_tbl) (hd : decode cc pc = .ok (.getfield idx, 3)) (hn : pc + 3 = n) (hk : rg_k r = .inl c) (hkN : k < rg_N c) (ht : rg_t c k = .int) (hr : r ≠ 0) (K : Vw y cc nL ret R mc ms n0 Post n L ((.inl (qg_i h r i k)) :: st) h cells slots) : Vw y cc nL ret R mc ms n0 Post pc L ((.inr (.inr (some (r, i)))) :: st) h cells slots := by
  subst hn
  intro p l e s m args below meth c0 Q D sz ρ0 ρ H locs ls X S E
  refine qw_get X S.2.2.2.1.1 hr (qk_h S.2.2.1 (r, i) rfl) hk hkN hw hd ?_
  rw [ht]
  exact K p l e s m args below meth c0 Q D sz ρ0 ρ H locs ls X (S.stk (fun z => qk_c trivial (qk_t z))) E
theorem V_getz (n : Nat) (c k : Nat) (hw : Cond.fieldLink y.cls idx (rg_T c k).1 (rg_T c k).2.1 (rg_T c k).2.2.1 ∈ lw_tbl) (hd : decode cc pc = .ok (.getfield idx, 3)) (hn : pc + 3 = n) (hk : rg_k r = .inl c) (hkN : k < rg_N c) (ht : rg_t c k = .boolean) (hr : r ≠ 0) (K : Vw y cc nL ret R mc ms n0 Post n L ((.inl (qg_i h r i k)) :: st) h cells slots) : Vw y cc nL ret R mc ms n0 Post pc L ((.inr (.inr (some (r, i)))) :: st) h cells slots := by
  subst hn
  intro p l e s m args below meth c0 Q D sz ρ0 ρ H locs ls X S E
  refine qw_get X S.2.2.2.1.1 hr (qk_h S.2.2.1 (r, i) rfl) hk hkN hw hd ?_
  rw [ht]
  exact K p l e s m args below meth c0 Q D sz ρ0 ρ H locs ls X (S.stk (fun z => qk_c trivial (qk_t z))) E
theorem V_getl (n : Nat) (c k : Nat) (hw : Cond.fieldLink y.cls idx (rg_T c k).1 (rg_T c k).2.1 (rg_T c k).2.2.1 ∈ lw_tbl) (hd : decode cc pc = .ok (.getfield idx, 3)) (hn : pc + 3 = n) (hk : rg_k r = .inl c) (hkN : k < rg_N c) (ht : rg_t c k = .long) (hr : r ≠ 0) (K : Vw y cc nL ret R mc ms n0 Post n L ((.inr (.inl (qg_l h r i k))) :: st) h cells slots) : Vw y cc nL ret R mc ms n0 Post pc L ((.inr (.inr (some (r, i)))) :: st) h cells slots := by
  subst hn
  intro p l e s m args below meth c0 Q D sz ρ0 ρ H locs ls X S E
  refine qw_get X S.2.2.2.1.1 hr (qk_h S.2.2.1 (r, i) rfl) hk hkN hw hd ?_
  rw [ht]
  exact K p l e s m args below meth c0 Q D sz ρ0 ρ H locs ls X (S.stk (fun z => qk_c trivial (qk_t z))) E
theorem V_geto (n : Nat) (c k : Nat) (hw : Cond.fieldLink y.cls idx (rg_T c k).1 (rg_T c k).2.1 (rg_T c k).2.2.1 ∈ lw_tbl) (hd : decode cc pc = .ok (.getfield idx, 3)) (hn : pc + 3 = n) (hk : rg_k r = .inl c) (hkN : k < rg_N c) (ht : ∃ t, rg_t c k = .object t) (hr : r ≠ 0) (K : Vw y cc nL ret R mc ms n0 Post n L ((.inr (.inr (qg_r h r i k))) :: st) h cells slots) : Vw y cc nL ret R mc ms n0 Post pc L ((.inr (.inr (some (r, i)))) :: st) h cells slots := by
  subst hn
  intro p l e s m args below meth c0 Q D sz ρ0 ρ H locs ls X S E
  obtain ⟨t, ht⟩ := ht
  refine qw_get X S.2.2.2.1.1 hr (qk_h S.2.2.1 (r, i) rfl) hk hkN hw hd ?_
  rw [ht]
  exact K p l e s m args below meth c0 Q D sz ρ0 ρ H locs ls X (S.stk (fun z => qk_c (fun b hb => S.2.2.2.1.1.2.2.2.1 _ _ _ _ hb) (qk_t z))) E
theorem V_geta (n : Nat) (c k : Nat) (hw : Cond.fieldLink y.cls idx (rg_T c k).1 (rg_T c k).2.1 (rg_T c k).2.2.1 ∈ lw_tbl) (hd : decode cc pc = .ok (.getfield idx, 3)) (hn : pc + 3 = n) (hk : rg_k r = .inl c) (hkN : k < rg_N c) (ht : ∃ t, rg_t c k = .array t) (hr : r ≠ 0) (K : Vw y cc nL ret R mc ms n0 Post n L ((.inr (.inr (qg_r h r i k))) :: st) h cells slots) : Vw y cc nL ret R mc ms n0 Post pc L ((.inr (.inr (some (r, i)))) :: st) h cells slots := by
  subst hn
  intro p l e s m args below meth c0 Q D sz ρ0 ρ H locs ls X S E
  obtain ⟨t, ht⟩ := ht
  refine qw_get X S.2.2.2.1.1 hr (qk_h S.2.2.1 (r, i) rfl) hk hkN hw hd ?_
  rw [ht]
  exact K p l e s m args below meth c0 Q D sz ρ0 ρ H locs ls X (S.stk (fun z => qk_c (fun b hb => S.2.2.2.1.1.2.2.2.1 _ _ _ _ hb) (qk_t z))) E
theorem V_puti (n : Nat) (c k : Nat) {x : Int32} (hw : Cond.fieldLink y.cls idx (rg_T c k).1 (rg_T c k).2.1 (rg_T c k).2.2.1 ∈ lw_tbl) (hd : decode cc pc = .ok (.putfield idx, 3)) (hn : pc + 3 = n) (hk : rg_k r = .inl c) (hkN : k < rg_N c) (ht : rg_t c k = .int) (hr : r ≠ 0) (hfin : (rg_T c k).2.2.2 = false ∨ (y.name = "<init>" ∧ (rg_T c k).1 = y.cls)) (K : Vw y cc nL ret R mc ms n0 Post n L st (qs_i h r i k x) cells slots) : Vw y cc nL ret R mc ms n0 Post pc L ((.inl x) :: (.inr (.inr (some (r, i)))) :: st) h cells slots := by
  subst hn
  intro p l e s m args below meth c0 Q D sz ρ0 ρ H locs ls X S E
  have hi : i < qg_n h r := qk_h (qk_t S.2.2.1) (r, i) rfl
  refine qw_put (v := qc_v ρ (.inl x)) X S.2.2.2.1.1 S.2.2.2.2.1 hr hi hk hkN hw hfin (by rw [ht]; rfl) (by rw [ht]; rfl) hd (fun H1 locs1 hob hz oq hS1 => ?_)
  have hc9 := ((qa_at_o hk).mp (S.2.2.2.1.1.1 r i hi hr).1).1
  refine K p l e s m args below meth c0 Q D sz ρ0 ρ H1 locs1 ls X ⟨S.1, S.2.1, qk_t (qk_t S.2.2.1), ⟨S.2.2.2.1.1.upd hr hi rfl (qo_i) (fun k b hb => S.2.2.2.1.1.2.2.2.1 _ _ _ _ hb) ((qa_at_o hk).mpr ⟨hc9, hob.to (fun j hj => ?_)⟩) oq hz, S.2.2.2.1.2⟩, hS1, S.2.2.2.2.2⟩ E
  by_cases e : j = k
  · subst e
    simp [updV, ht, qf_v, qii, qc_v]
  · simp only [updV, if_neg e]
    exact (qf_vi e _).symm
theorem V_putz (n : Nat) (c k : Nat) {x : Int32} (hw : Cond.fieldLink y.cls idx (rg_T c k).1 (rg_T c k).2.1 (rg_T c k).2.2.1 ∈ lw_tbl) (hd : decode cc pc = .ok (.putfield idx, 3)) (hn : pc + 3 = n) (hk : rg_k r = .inl c) (hkN : k < rg_N c) (ht : rg_t c k = .boolean) (hr : r ≠ 0) (hfin : (rg_T c k).2.2.2 = false ∨ (y.name = "<init>" ∧ (rg_T c k).1 = y.cls)) (hx : narrow .boolean (.int x) = .int x) (K : Vw y cc nL ret R mc ms n0 Post n L st (qs_i h r i k x) cells slots) : Vw y cc nL ret R mc ms n0 Post pc L ((.inl x) :: (.inr (.inr (some (r, i)))) :: st) h cells slots := by
  subst hn
  intro p l e s m args below meth c0 Q D sz ρ0 ρ H locs ls X S E
  have hi : i < qg_n h r := qk_h (qk_t S.2.2.1) (r, i) rfl
  refine qw_put (v := qc_v ρ (.inl x)) X S.2.2.2.1.1 S.2.2.2.2.1 hr hi hk hkN hw hfin (by rw [ht]; exact hx) (by rw [ht]; exact qz_fit hx) hd (fun H1 locs1 hob hz oq hS1 => ?_)
  have hc9 := ((qa_at_o hk).mp (S.2.2.2.1.1.1 r i hi hr).1).1
  refine K p l e s m args below meth c0 Q D sz ρ0 ρ H1 locs1 ls X ⟨S.1, S.2.1, qk_t (qk_t S.2.2.1), ⟨S.2.2.2.1.1.upd hr hi rfl (qo_i) (fun k b hb => S.2.2.2.1.1.2.2.2.1 _ _ _ _ hb) ((qa_at_o hk).mpr ⟨hc9, hob.to (fun j hj => ?_)⟩) oq hz, S.2.2.2.1.2⟩, hS1, S.2.2.2.2.2⟩ E
  by_cases e : j = k
  · subst e
    simp [updV, ht, qf_v, qii, qc_v]
  · simp only [updV, if_neg e]
    exact (qf_vi e _).symm
theorem V_putl (n : Nat) (c k : Nat) {x : Int64} (hw : Cond.fieldLink y.cls idx (rg_T c k).1 (rg_T c k).2.1 (rg_T c k).2.2.1 ∈ lw_tbl) (hd : decode cc pc = .ok (.putfield idx, 3)) (hn : pc + 3 = n) (hk : rg_k r = .inl c) (hkN : k < rg_N c) (ht : rg_t c k = .long) (hr : r ≠ 0) (hfin : (rg_T c k).2.2.2 = false ∨ (y.name = "<init>" ∧ (rg_T c k).1 = y.cls)) (K : Vw y cc nL ret R mc ms n0 Post n L st (qs_l h r i k x) cells slots) : Vw y cc nL ret R mc ms n0 Post pc L ((.inr (.inl x)) :: (.inr (.inr (some (r, i)))) :: st) h cells slots := by
  subst hn
  intro p l e s m args below meth c0 Q D sz ρ0 ρ H locs ls X S E
  have hi : i < qg_n h r := qk_h (qk_t S.2.2.1) (r, i) rfl
  refine qw_put (v := qc_v ρ (.inr (.inl x))) X S.2.2.2.1.1 S.2.2.2.2.1 hr hi hk hkN hw hfin (by rw [ht]; rfl) (by rw [ht]; rfl) hd (fun H1 locs1 hob hz oq hS1 => ?_)
  have hc9 := ((qa_at_o hk).mp (S.2.2.2.1.1.1 r i hi hr).1).1
  refine K p l e s m args below meth c0 Q D sz ρ0 ρ H1 locs1 ls X ⟨S.1, S.2.1, qk_t (qk_t S.2.2.1), ⟨S.2.2.2.1.1.upd hr hi rfl (qo_l) (fun k b hb => S.2.2.2.1.1.2.2.2.1 _ _ _ _ hb) ((qa_at_o hk).mpr ⟨hc9, hob.to (fun j hj => ?_)⟩) oq hz, S.2.2.2.1.2⟩, hS1, S.2.2.2.2.2⟩ E
  by_cases e : j = k
  · subst e
    simp [updV, ht, qf_v, qll, qc_v]
  · simp only [updV, if_neg e]
    exact (qf_vl e _).symm
theorem V_puto (n : Nat) (c k : Nat) {x : Option (Nat × Nat)} (hw : Cond.fieldLink y.cls idx (rg_T c k).1 (rg_T c k).2.1 (rg_T c k).2.2.1 ∈ lw_tbl) (hd : decode cc pc = .ok (.putfield idx, 3)) (hn : pc + 3 = n) (hk : rg_k r = .inl c) (hkN : k < rg_N c) (ht : ∃ t, rg_t c k = .object t) (hr : r ≠ 0) (hfin : (rg_T c k).2.2.2 = false ∨ (y.name = "<init>" ∧ (rg_T c k).1 = y.cls)) (K : Vw y cc nL ret R mc ms n0 Post n L st (qs_r h r i k x) cells slots) : Vw y cc nL ret R mc ms n0 Post pc L ((.inr (.inr x)) :: (.inr (.inr (some (r, i)))) :: st) h cells slots := by
  subst hn
  intro p l e s m args below meth c0 Q D sz ρ0 ρ H locs ls X S E
  obtain ⟨t, ht⟩ := ht
  have hi : i < qg_n h r := qk_h (qk_t S.2.2.1) (r, i) rfl
  refine qw_put (v := qc_v ρ (.inr (.inr x))) X S.2.2.2.1.1 S.2.2.2.2.1 hr hi hk hkN hw hfin (by rw [ht]; cases x <;> rfl) (by rw [ht]; cases x <;> rfl) hd (fun H1 locs1 hob hz oq hS1 => ?_)
  have hc9 := ((qa_at_o hk).mp (S.2.2.2.1.1.1 r i hi hr).1).1
  refine K p l e s m args below meth c0 Q D sz ρ0 ρ H1 locs1 ls X ⟨S.1, S.2.1, qk_t (qk_t S.2.2.1), ⟨S.2.2.2.1.1.upd hr hi rfl (qo_r) (fun j b hb => by
    rw [qrr] at hb
    split at hb
    · exact qk_h S.2.2.1 b hb
    · exact S.2.2.2.1.1.2.2.2.1 _ _ _ _ hb) ((qa_at_o hk).mpr ⟨hc9, hob.to (fun j hj => ?_)⟩) oq hz, S.2.2.2.1.2⟩, hS1, S.2.2.2.2.2⟩ E
  by_cases e : j = k
  · subst e
    simp [updV, ht, qf_v, qrr, qc_v]
  · simp only [updV, if_neg e]
    exact (qf_vr e _).symm
theorem V_puta (n : Nat) (c k : Nat) {x : Option (Nat × Nat)} (hw : Cond.fieldLink y.cls idx (rg_T c k).1 (rg_T c k).2.1 (rg_T c k).2.2.1 ∈ lw_tbl) (hd : decode cc pc = .ok (.putfield idx, 3)) (hn : pc + 3 = n) (hk : rg_k r = .inl c) (hkN : k < rg_N c) (ht : ∃ t, rg_t c k = .array t) (hr : r ≠ 0) (hfin : (rg_T c k).2.2.2 = false ∨ (y.name = "<init>" ∧ (rg_T c k).1 = y.cls)) (K : Vw y cc nL ret R mc ms n0 Post n L st (qs_r h r i k x) cells slots) : Vw y cc nL ret R mc ms n0 Post pc L ((.inr (.inr x)) :: (.inr (.inr (some (r, i)))) :: st) h cells slots := by
  subst hn
  intro p l e s m args below meth c0 Q D sz ρ0 ρ H locs ls X S E
  obtain ⟨t, ht⟩ := ht
  have hi : i < qg_n h r := qk_h (qk_t S.2.2.1) (r, i) rfl
  refine qw_put (v := qc_v ρ (.inr (.inr x))) X S.2.2.2.1.1 S.2.2.2.2.1 hr hi hk hkN hw hfin (by rw [ht]; cases x <;> rfl) (by rw [ht]; cases x <;> rfl) hd (fun H1 locs1 hob hz oq hS1 => ?_)
  have hc9 := ((qa_at_o hk).mp (S.2.2.2.1.1.1 r i hi hr).1).1
  refine K p l e s m args below meth c0 Q D sz ρ0 ρ H1 locs1 ls X ⟨S.1, S.2.1, qk_t (qk_t S.2.2.1), ⟨S.2.2.2.1.1.upd hr hi rfl (qo_r) (fun j b hb => by
    rw [qrr] at hb
    split at hb
    · exact qk_h S.2.2.1 b hb
    · exact S.2.2.2.1.1.2.2.2.1 _ _ _ _ hb) ((qa_at_o hk).mpr ⟨hc9, hob.to (fun j hj => ?_)⟩) oq hz, S.2.2.2.1.2⟩, hS1, S.2.2.2.2.2⟩ E
  by_cases e : j = k
  · subst e
    simp [updV, ht, qf_v, qrr, qc_v]
  · simp only [updV, if_neg e]
    exact (qf_vr e _).symm
theorem V_iald (n : Nat) {x : Int32} (hd : decode cc pc = .ok (.iaload, 1)) (hn : pc + 1 = n) (hk : rg_k r = .inr .int) (hr : r ≠ 0) (hin : vp_in x (rg_n r)) (K : Vw y cc nL ret R mc ms n0 Post n L ((.inl (qg_i h r i x.toNatClampNeg)) :: st) h cells slots) : Vw y cc nL ret R mc ms n0 Post pc L (.inl x :: (.inr (.inr (some (r, i)))) :: st) h cells slots := by
  subst hn
  intro p l e s m args below meth c0 Q D sz ρ0 ρ H locs ls X S E
  obtain ⟨cA, a1, a2, a3⟩ := (qa_at_a hk).mp (S.2.2.2.1.1.1 r i (qk_h (qk_t S.2.2.1) (r, i) rfl) hr).1
  have hlt : x.toNatClampNeg < rg_n r := Nat.not_le.mp fun q => hin (Or.inr q)
  have a3 : H[ρ r i]? = some (arrV cA (rg_n r) (fun j => .int (qg_i h r i j))) := a3
  exact W.iald (v := .int (qg_i h r i x.toNatClampNeg)) X.1 X.2.1 a3 (a1 (rg_n r) (fun j => .int (qg_i h r i j))) (fun q => by cases q) (by rw [arrV_size]; exact hin) (by rw [arrV_read _ _ hlt]) rfl rfl hd (K p l e s m args below meth c0 Q D sz ρ0 ρ H locs ls X (S.stk (fun z => qk_c trivial (qk_t (qk_t z)))) E)
theorem V_zald (n : Nat) {x : Int32} (hd : decode cc pc = .ok (.baload, 1)) (hn : pc + 1 = n) (hk : rg_k r = .inr .boolean) (hr : r ≠ 0) (hin : vp_in x (rg_n r)) (K : Vw y cc nL ret R mc ms n0 Post n L ((.inl (qg_i h r i x.toNatClampNeg)) :: st) h cells slots) : Vw y cc nL ret R mc ms n0 Post pc L (.inl x :: (.inr (.inr (some (r, i)))) :: st) h cells slots := by
  subst hn
  intro p l e s m args below meth c0 Q D sz ρ0 ρ H locs ls X S E
  obtain ⟨cA, a1, a2, a3⟩ := (qa_at_a hk).mp (S.2.2.2.1.1.1 r i (qk_h (qk_t S.2.2.1) (r, i) rfl) hr).1
  have hlt : x.toNatClampNeg < rg_n r := Nat.not_le.mp fun q => hin (Or.inr q)
  have a3 : H[ρ r i]? = some (arrV cA (rg_n r) (fun j => .int (qg_i h r i j))) := a3
  exact W.zald (v := .int (qg_i h r i x.toNatClampNeg)) X.1 X.2.1 a3 (a1 (rg_n r) (fun j => .int (qg_i h r i j))) (fun q => by cases q) (by rw [arrV_size]; exact hin) (by rw [arrV_read _ _ hlt]) rfl rfl hd (K p l e s m args below meth c0 Q D sz ρ0 ρ H locs ls X (S.stk (fun z => qk_c trivial (qk_t (qk_t z)))) E)
theorem V_lald (n : Nat) {x : Int32} (hd : decode cc pc = .ok (.laload, 1)) (hn : pc + 1 = n) (hk : rg_k r = .inr .long) (hr : r ≠ 0) (hin : vp_in x (rg_n r)) (K : Vw y cc nL ret R mc ms n0 Post n L ((.inr (.inl (qg_l h r i x.toNatClampNeg))) :: st) h cells slots) : Vw y cc nL ret R mc ms n0 Post pc L (.inl x :: (.inr (.inr (some (r, i)))) :: st) h cells slots := by
  subst hn
  intro p l e s m args below meth c0 Q D sz ρ0 ρ H locs ls X S E
  obtain ⟨cA, a1, a2, a3⟩ := (qa_at_a hk).mp (S.2.2.2.1.1.1 r i (qk_h (qk_t S.2.2.1) (r, i) rfl) hr).1
  have hlt : x.toNatClampNeg < rg_n r := Nat.not_le.mp fun q => hin (Or.inr q)
  have a3 : H[ρ r i]? = some (arrV cA (rg_n r) (fun j => .long (qg_l h r i j))) := a3
  exact W.lald (v := .long (qg_l h r i x.toNatClampNeg)) X.1 X.2.1 a3 (a1 (rg_n r) (fun j => .long (qg_l h r i j))) (fun q => by cases q) (by rw [arrV_size]; exact hin) (by rw [arrV_read _ _ hlt]) rfl rfl hd (K p l e s m args below meth c0 Q D sz ρ0 ρ H locs ls X (S.stk (fun z => qk_c trivial (qk_t (qk_t z)))) E)
theorem V_aald (n : Nat) {x : Int32} {ty : FieldType} (hd : decode cc pc = .ok (.aaload, 1)) (hn : pc + 1 = n) (hk : rg_k r = .inr ty) (hty : (∃ t, ty = .object t) ∨ ∃ t, ty = .array t) (hr : r ≠ 0) (hin : vp_in x (rg_n r)) (K : Vw y cc nL ret R mc ms n0 Post n L ((.inr (.inr (qg_r h r i x.toNatClampNeg))) :: st) h cells slots) : Vw y cc nL ret R mc ms n0 Post pc L (.inl x :: (.inr (.inr (some (r, i)))) :: st) h cells slots := by
  subst hn
  intro p l e s m args below meth c0 Q D sz ρ0 ρ H locs ls X S E
  obtain ⟨cA, a1, a2, a3⟩ := (qa_at_a hk).mp (S.2.2.2.1.1.1 r i (qk_h (qk_t S.2.2.1) (r, i) rfl) hr).1
  have hlt : x.toNatClampNeg < rg_n r := Nat.not_le.mp fun q => hin (Or.inr q)
  have a3 : H[ρ r i]? = some (arrV cA (rg_n r) (fun j => va_rf (qc_o ρ (qg_r h r i j)))) := by
    rcases hty with ⟨t, rfl⟩ | ⟨t, rfl⟩ <;> exact a3
  exact W.aald (v := va_rf (qc_o ρ (qg_r h r i x.toNatClampNeg))) (ty := ty) X.1 X.2.1 a3 (a1 (rg_n r) _) (by rcases hty with ⟨t, rfl⟩ | ⟨t, rfl⟩ <;> rfl) (fun q => by cases q) (by rw [arrV_size]; exact hin) (by rw [arrV_read _ _ hlt]) rfl rfl hd (K p l e s m args below meth c0 Q D sz ρ0 ρ H locs ls X (S.stk (fun z => qk_c (fun b hb => S.2.2.2.1.1.2.2.2.1 _ _ _ _ hb) (qk_t (qk_t z)))) E)
theorem V_iast (n : Nat) {x : Int32} {v : Int32} (hd : decode cc pc = .ok (.iastore, 1)) (hn : pc + 1 = n) (hk : rg_k r = .inr .int) (hr : r ≠ 0) (hin : vp_in x (rg_n r)) (K : Vw y cc nL ret R mc ms n0 Post n L st (qs_i h r i x.toNatClampNeg v) cells slots) : Vw y cc nL ret R mc ms n0 Post pc L ((.inl v) :: .inl x :: (.inr (.inr (some (r, i)))) :: st) h cells slots := by
  subst hn
  intro p l e s m args below meth c0 Q D sz ρ0 ρ H locs ls X S E
  have hi : i < qg_n h r := qk_h (qk_t (qk_t S.2.2.1)) (r, i) rfl
  obtain ⟨hat, hsz⟩ := S.2.2.2.1.1.1 r i hi hr
  obtain ⟨cA, a1, a2, a3⟩ := (qa_at_a hk).mp hat
  have a3 : H[ρ r i]? = some (arrV cA (rg_n r) (fun j => .int (qg_i h r i j))) := a3
  refine W.iast X.1 X.2.1 a3 (a1 (rg_n r) (fun j => .int (qg_i h r i j))) (fun q => by cases q) (by rw [arrV_size]; exact hin) rfl rfl hd (fun H1 e1 hz oq => ?_)
  refine K p l e s m args below meth c0 Q D sz ρ0 ρ H1 _ ls X ⟨S.1, S.2.1, qk_t (qk_t (qk_t S.2.2.1)), ⟨S.2.2.2.1.1.upd hr hi rfl (qo_i) (fun k b hb => S.2.2.2.1.1.2.2.2.1 _ _ _ _ hb) ((qa_at_a hk).mpr ⟨cA, a1, a2, ?_⟩) oq hz, S.2.2.2.1.2⟩, S.2.2.2.2.1.put hz oq hsz, S.2.2.2.2.2⟩ E
  rw [e1, arrV_store]
  show _ = some (arrV cA (rg_n r) (fun j => .int (qg_i (qs_i h r i x.toNatClampNeg v) r i j)))
  refine congrArg some (congrArg (arrV cA (rg_n r)) (funext fun j => ?_))
  by_cases e : j = x.toNatClampNeg
  · subst e
    simp [updV, qii]
  · simp [updV, e, qii]
theorem V_zast (n : Nat) {x : Int32} {v : Int32} (hd : decode cc pc = .ok (.bastore, 1)) (hn : pc + 1 = n) (hk : rg_k r = .inr .boolean) (hr : r ≠ 0) (hin : vp_in x (rg_n r)) (hv : narrow .boolean (.int v) = .int v) (K : Vw y cc nL ret R mc ms n0 Post n L st (qs_i h r i x.toNatClampNeg v) cells slots) : Vw y cc nL ret R mc ms n0 Post pc L ((.inl v) :: .inl x :: (.inr (.inr (some (r, i)))) :: st) h cells slots := by
  subst hn
  intro p l e s m args below meth c0 Q D sz ρ0 ρ H locs ls X S E
  have hi : i < qg_n h r := qk_h (qk_t (qk_t S.2.2.1)) (r, i) rfl
  obtain ⟨hat, hsz⟩ := S.2.2.2.1.1.1 r i hi hr
  obtain ⟨cA, a1, a2, a3⟩ := (qa_at_a hk).mp hat
  have a3 : H[ρ r i]? = some (arrV cA (rg_n r) (fun j => .int (qg_i h r i j))) := a3
  refine W.zast X.1 X.2.1 a3 (a1 (rg_n r) (fun j => .int (qg_i h r i j))) (fun q => by cases q) (by rw [arrV_size]; exact hin) rfl rfl hd (fun H1 e1 hz oq => ?_)
  refine K p l e s m args below meth c0 Q D sz ρ0 ρ H1 _ ls X ⟨S.1, S.2.1, qk_t (qk_t (qk_t S.2.2.1)), ⟨S.2.2.2.1.1.upd hr hi rfl (qo_i) (fun k b hb => S.2.2.2.1.1.2.2.2.1 _ _ _ _ hb) ((qa_at_a hk).mpr ⟨cA, a1, a2, ?_⟩) oq hz, S.2.2.2.1.2⟩, S.2.2.2.2.1.put hz oq hsz, S.2.2.2.2.2⟩ E
  rw [hv] at e1
  rw [e1, arrV_store]
  show _ = some (arrV cA (rg_n r) (fun j => .int (qg_i (qs_i h r i x.toNatClampNeg v) r i j)))
  refine congrArg some (congrArg (arrV cA (rg_n r)) (funext fun j => ?_))
  by_cases e : j = x.toNatClampNeg
  · subst e
    simp [updV, qii]
  · simp [updV, e, qii]
theorem V_last (n : Nat) {x : Int32} {v : Int64} (hd : decode cc pc = .ok (.lastore, 1)) (hn : pc + 1 = n) (hk : rg_k r = .inr .long) (hr : r ≠ 0) (hin : vp_in x (rg_n r)) (K : Vw y cc nL ret R mc ms n0 Post n L st (qs_l h r i x.toNatClampNeg v) cells slots) : Vw y cc nL ret R mc ms n0 Post pc L ((.inr (.inl v)) :: .inl x :: (.inr (.inr (some (r, i)))) :: st) h cells slots := by
  subst hn
  intro p l e s m args below meth c0 Q D sz ρ0 ρ H locs ls X S E
  have hi : i < qg_n h r := qk_h (qk_t (qk_t S.2.2.1)) (r, i) rfl
  obtain ⟨hat, hsz⟩ := S.2.2.2.1.1.1 r i hi hr
  obtain ⟨cA, a1, a2, a3⟩ := (qa_at_a hk).mp hat
  have a3 : H[ρ r i]? = some (arrV cA (rg_n r) (fun j => .long (qg_l h r i j))) := a3
  refine W.last X.1 X.2.1 a3 (a1 (rg_n r) (fun j => .long (qg_l h r i j))) (fun q => by cases q) (by rw [arrV_size]; exact hin) rfl rfl hd (fun H1 e1 hz oq => ?_)
  refine K p l e s m args below meth c0 Q D sz ρ0 ρ H1 _ ls X ⟨S.1, S.2.1, qk_t (qk_t (qk_t S.2.2.1)), ⟨S.2.2.2.1.1.upd hr hi rfl (qo_l) (fun k b hb => S.2.2.2.1.1.2.2.2.1 _ _ _ _ hb) ((qa_at_a hk).mpr ⟨cA, a1, a2, ?_⟩) oq hz, S.2.2.2.1.2⟩, S.2.2.2.2.1.put hz oq hsz, S.2.2.2.2.2⟩ E
  rw [e1, arrV_store]
  show _ = some (arrV cA (rg_n r) (fun j => .long (qg_l (qs_l h r i x.toNatClampNeg v) r i j)))
  refine congrArg some (congrArg (arrV cA (rg_n r)) (funext fun j => ?_))
  by_cases e : j = x.toNatClampNeg
  · subst e
    simp [updV, qll]
  · simp [updV, e, qll]
theorem V_aast (n : Nat) {x : Int32} {r2 i2 c2 : Nat} (hd : decode cc pc = .ok (.aastore, 1)) (hn : pc + 1 = n) (hk : rg_k r = .inr (.object (rg_C c2))) (hk2 : rg_k r2 = .inl c2) (hr : r ≠ 0) (hr2 : r2 ≠ 0) (hin : vp_in x (rg_n r)) (K : Vw y cc nL ret R mc ms n0 Post n L st (qs_r h r i x.toNatClampNeg (some (r2, i2))) cells slots) : Vw y cc nL ret R mc ms n0 Post pc L ((.inr (.inr (some (r2, i2)))) :: .inl x :: (.inr (.inr (some (r, i)))) :: st) h cells slots := by
  subst hn
  intro p l e s m args below meth c0 Q D sz ρ0 ρ H locs ls X S E
  have hi : i < qg_n h r := qk_h (qk_t (qk_t S.2.2.1)) (r, i) rfl
  have hi2 : i2 < qg_n h r2 := qk_h S.2.2.1 (r2, i2) rfl
  obtain ⟨hat, hsz⟩ := S.2.2.2.1.1.1 r i hi hr
  obtain ⟨cA, a1, a2, a3⟩ := (qa_at_a hk).mp hat
  have a3 : H[ρ r i]? = some (arrV cA (rg_n r) (fun j => va_rf (qc_o ρ (qg_r h r i j)))) := a3
  obtain ⟨hc9, cellV, g1, g2, g3, -⟩ := (qa_at_o hk2).mp (S.2.2.2.1.1.1 r2 i2 hi2 hr2).1
  have hcls := (S.2.2.2.1.1.2.2.2.2.1.1.1 c2 _ (rg_cl c2 hc9)).2
  obtain ⟨kA, comp, k1, k2, k3, k4⟩ := id a2
  have hcomp : comp = D.1 c2 := Option.some.inj (k3.symm.trans hcls.1)
  subst hcomp
  obtain ⟨kC, hkC, -⟩ := id hcls.2
  have hlt : x.toNatClampNeg < rg_n r := Nat.not_le.mp fun q => hin (Or.inr q)
  have h0 : ¬ x < 0 := fun q => hin (Or.inl q)
  refine W.aast X.1 X.2.1 a3 (fun q z => by cases z) (fun z => by cases z) k1 k2 rfl hkC ⟨h0, by rw [arrV_size]; exact hlt⟩ g1 (fun q z => by rw [g3] at z; cases z) (by rw [g2]; exact hkC) (by rw [g2]; exact va_assign hcls) rfl rfl hd (fun H1 e1 hz oq => ?_)
  refine K p l e s m args below meth c0 Q D sz ρ0 ρ H1 _ ls X ⟨S.1, S.2.1, qk_t (qk_t (qk_t S.2.2.1)), ⟨S.2.2.2.1.1.upd hr hi rfl (qo_r) (fun k b hb => ?_) ((qa_at_a hk).mpr ⟨cA, a1, a2, ?_⟩) oq hz, S.2.2.2.1.2⟩, S.2.2.2.2.1.put hz oq hsz, S.2.2.2.2.2⟩ E
  · rw [qrr] at hb
    split at hb
    · cases hb
      exact hi2
    · exact S.2.2.2.1.1.2.2.2.1 _ _ _ _ hb
  · rw [e1, arrV_store]
    show _ = some (arrV cA (rg_n r) (fun j => va_rf (qc_o ρ (qg_r (qs_r h r i x.toNatClampNeg (some (r2, i2))) r i j))))
    refine congrArg some (congrArg (arrV cA (rg_n r)) (funext fun j => ?_))
    by_cases e : j = x.toNatClampNeg
    · subst e
      simp [updV, qrr, qc_o, va_rf]
    · simp [updV, e, qrr]
theorem V_new (n r c : Nat) {idx : Nat} (hd : decode cc pc = .ok (.new idx, 3)) (hn : pc + 3 = n) (hk : rg_k r = .inl c) (hr : r ≠ 0) (hc9 : c < 9) (hw1 : Cond.classLink y.cls idx (rg_C c) ∈ lw_tbl) (hw2 : Cond.instantiable (rg_C c) (rg_N c) ∈ lw_tbl) (hw3 : Cond.initialized (rg_C c) ∈ lw_tbl) (hc : cells + 1 ≤ R.cells) (hs : slots + rg_N c ≤ R.slots) (hdf : ∀ k, k < rg_N c → rg_t c k ≠ .float ∧ rg_t c k ≠ .double) (K : Vw y cc nL ret R mc ms n0 Post n L ((.inr (.inr (some (r, qg_n h r)))) :: st) (qs_n h r) (cells + 1) (slots + rg_N c)) : Vw y cc nL ret R mc ms n0 Post pc L st h cells slots := by
  subst hn
  intro p l e s m args below meth c0 Q D sz ρ0 ρ H locs ls X S E
  have hKn := S.2.2.2.1.1.2.2.2.2.1.1.1 c _ (rg_cl c hc9)
  refine W.newcK X.1 X.2.1 X.2.2.2.1 (X.2.2.2.2.1 _ (gd_in hw1 rfl)) (X.2.2.2.2.1 _ (gd_in hw2 rfl)) (X.2.2.2.2.1 _ (gd_in hw3 rfl)) rfl hd hc hs hKn.2.1 rfl (fun H1 kC hkC e1 z1 o1 => ?_)
  have A := S.2.2.2.1.1
  have hz0 := A.2.2.1 r (qg_n h r)
  have hat : qa_at D (qr_up ρ r (qg_n h r) H.size) h s H1 r (qg_n h r) := (qa_at_o hk).mpr ⟨hc9, by
    rw [qr_up_eq]
    refine (u_born (rg_t c) X.2.2.2.2.1 (rg_ing c hc9) hKn hkC e1 (rg_ty c hc9)).to (fun k hkN => ?_)
    obtain ⟨d1, d2⟩ := hdf k hkN
    obtain ⟨z1, z2, z3⟩ := hz0 k (Nat.le_refl _)
    cases ht : rg_t c k <;> simp_all [qf_v, defaultValue, qc_o, va_rf]⟩
  have hle : ∀ a, qg_n h a ≤ qg_n (qs_n h r) a := fun a => by rw [qnn]; split <;> omega
  have hρ := qr_up_le (n := qg_n h) ρ (r := r) (q := H.size)
  have kk := K p l e s m args below meth c0 Q D sz ρ0 (qr_up ρ r (qg_n h r) H.size) H1 locs ls X ⟨⟨fun a => Nat.le_trans (S.1.1 a) (hle a), fun a b hb => (hρ a b (Nat.lt_of_lt_of_le hb (S.1.1 a))).trans (S.1.2 a b hb)⟩, ⟨by rw [qc_Lm hρ S.2.1.2]; exact S.2.1.1, qk_Lm hle S.2.1.2⟩, qk_c (fun b hb => by cases hb; show qg_n h r < _; rw [qnn, if_pos rfl]; exact Nat.lt_succ_self _) (qk_lm hle S.2.2.1), ⟨A.new hr hat (fun q hq => o1 q hq) z1, S.2.2.2.1.2⟩, ⟨Nat.le_trans S.2.2.2.2.1.1 (by omega), fun x h1 h2 => (o1 x (Nat.lt_of_lt_of_le h1 S.2.2.2.2.1.1)).trans (S.2.2.2.2.1.2.1 x h1 h2), S.2.2.2.2.1.2.2⟩, S.2.2.2.2.2⟩ E
  have e9 : (qv_r (some (r, qg_n h r)) :: st).map (qc_v (qr_up ρ r (qg_n h r) H.size)) = .ref H.size :: st.map (qc_v ρ) := by
    rw [List.map_cons, qc_lm hρ S.2.2.1]
    show Value.ref (qr_up ρ r (qg_n h r) H.size r (qg_n h r)) :: _ = _
    rw [qr_up_eq]
  rw [e9] at kk
  exact kk
theorem V_newa (n r : Nat) {at_ : ArrayType} {x : Int32} {ty : FieldType} (hd : decode cc pc = .ok (.newarray at_, 2)) (hn : pc + 2 = n) (hk : rg_k r = .inr ty) (hr : r ≠ 0) (hty : newarray.typeOf at_ = ty) (hp : ty = .int ∨ ty = .long ∨ ty = .boolean) (hw : Cond.arrayClass ty ∈ lw_tbl) (hx : ¬ x < 0) (hN : x.toNatClampNeg = rg_n r) (hb : rg_n r * 8 ≤ 536870912) (hc : cells + 1 ≤ R.cells) (hs : slots + rg_n r ≤ R.slots) (K : Vw y cc nL ret R mc ms n0 Post n L ((.inr (.inr (some (r, qg_n h r)))) :: st) (qs_n h r) (cells + 1) (slots + rg_n r)) : Vw y cc nL ret R mc ms n0 Post pc L (.inl x :: st) h cells slots := by
  subst hn
  intro p l e s m args below meth c0 Q D sz ρ0 ρ H locs ls X S E
  subst hty
  have hb2 : rg_n r * componentBytes (newarray.typeOf at_) ≤ 536870912 := by
    have : componentBytes (newarray.typeOf at_) ≤ 8 := by rcases hp with e | e | e <;> rw [e] <;> decide
    exact Nat.le_trans (Nat.mul_le_mul_left _ this) hb
  refine va_newaK X.1 X.2.1 (X.2.2.2.2.1 _ (gd_in hw rfl)) rfl hd rfl hx hN hb2 hc hs rfl (fun H1 cA e1 z1 o1 hAr hNm => ?_)
  have A := S.2.2.2.1.1
  have hz0 := A.2.2.1 r (qg_n h r)
  have hat : qa_at D (qr_up ρ r (qg_n h r) H.size) h s H1 r (qg_n h r) := (qa_at_a hk).mpr ⟨cA, hAr, by rcases hp with e | e | e <;> rw [e] at hNm ⊢ <;> exact hNm, by
    rw [qr_up_eq, e1]
    have w1 : qg_i h r (qg_n h r) = fun _ => 0 := funext fun k => (hz0 k (Nat.le_refl _)).1
    have w2 : qg_l h r (qg_n h r) = fun _ => 0 := funext fun k => (hz0 k (Nat.le_refl _)).2.1
    rcases hp with e | e | e <;> rw [e] <;> simp [qf_a, vp_cell, defaultValue, w1, w2]⟩
  have hle : ∀ a, qg_n h a ≤ qg_n (qs_n h r) a := fun a => by rw [qnn]; split <;> omega
  have hρ := qr_up_le (n := qg_n h) ρ (r := r) (q := H.size)
  have kk := K p l e s m args below meth c0 Q D sz ρ0 (qr_up ρ r (qg_n h r) H.size) H1 locs ls X ⟨⟨fun a => Nat.le_trans (S.1.1 a) (hle a), fun a b hb => (hρ a b (Nat.lt_of_lt_of_le hb (S.1.1 a))).trans (S.1.2 a b hb)⟩, ⟨by rw [qc_Lm hρ S.2.1.2]; exact S.2.1.1, qk_Lm hle S.2.1.2⟩, qk_c (fun b hb => by cases hb; show qg_n h r < _; rw [qnn, if_pos rfl]; exact Nat.lt_succ_self _) (qk_lm hle (qk_t S.2.2.1)), ⟨A.new hr hat (fun q hq => o1 q hq) z1, S.2.2.2.1.2⟩, ⟨Nat.le_trans S.2.2.2.2.1.1 (by omega), fun x h1 h2 => (o1 x (Nat.lt_of_lt_of_le h1 S.2.2.2.2.1.1)).trans (S.2.2.2.2.1.2.1 x h1 h2), S.2.2.2.2.1.2.2⟩, S.2.2.2.2.2⟩ E
  have e9 : (qv_r (some (r, qg_n h r)) :: st).map (qc_v (qr_up ρ r (qg_n h r) H.size)) = .ref H.size :: st.map (qc_v ρ) := by
    rw [List.map_cons, qc_lm hρ (qk_t S.2.2.1)]
    show Value.ref (qr_up ρ r (qg_n h r) H.size r (qg_n h r)) :: _ = _
    rw [qr_up_eq]
  rw [e9] at kk
  exact kk
theorem V_anewa (n r : Nat) {x : Int32} {idx : Nat} {C : String} (hd : decode cc pc = .ok (.anewarray idx, 3)) (hn : pc + 3 = n) (hk : rg_k r = .inr (.object C)) (hr : r ≠ 0) (hw : Cond.classLink y.cls idx C ∈ lw_tbl) (ho : ∀ (D : va_G) (s : State), qa_K D s → va_AO C s) (hx : ¬ x < 0) (hN : x.toNatClampNeg = rg_n r) (hb : rg_n r * 4 ≤ 536870912) (hc : cells + 1 ≤ R.cells) (hs : slots + rg_n r ≤ R.slots) (K : Vw y cc nL ret R mc ms n0 Post n L ((.inr (.inr (some (r, qg_n h r)))) :: st) (qs_n h r) (cells + 1) (slots + rg_n r)) : Vw y cc nL ret R mc ms n0 Post pc L (.inl x :: st) h cells slots := by
  subst hn
  intro p l e s m args below meth c0 Q D sz ρ0 ρ H locs ls X S E
  rw [← hN] at hb hs K
  have A := S.2.2.2.1.1
  refine W.anew X.1 X.2.1 X.2.2.2.1 (X.2.2.2.2.1 _ (gd_in hw rfl)) (va_AO.use (ho D s A.2.2.2.2.1)) rfl hd rfl hx hb hc hs (fun cA kA comp f1 f2 f3 f4 => ?_)
  generalize hH1 : H.push ({ cls := cA, slots := Array.replicate x.toNatClampNeg .null, vm := .none } : Cell) = H1
  have z1 : H1.size = H.size + 1 := by rw [← hH1, Array.size_push]
  have e1 : H1[H.size]? = some (arrV cA x.toNatClampNeg (fun _ => .null)) := by rw [← hH1, Array.getElem?_push_size, ← arrV_new]
  have o1 : ∀ q : Nat, q < H.size → H1[q]? = H[q]? := fun q hq => by rw [← hH1, Array.getElem?_push, if_neg (Nat.ne_of_lt hq)]
  have hAr : ArrOfT s cA (.object C) := fun N z => ⟨(fun k h => by cases h), kA, f2, comp, f3⟩
  have hz0 := A.2.2.1 r (qg_n h r)
  have hat : qa_at D (qr_up ρ r (qg_n h r) H.size) h s H1 r (qg_n h r) := (qa_at_a hk).mpr ⟨cA, hAr, ⟨kA, comp, f2, f3, f4, f1⟩, by
    rw [qr_up_eq, e1, ← hN]
    have w1 : qg_r h r (qg_n h r) = fun _ => none := funext fun k => (hz0 k (Nat.le_refl _)).2.2
    simp [qf_a, vp_cell, w1, qc_o, va_rf]⟩
  have hle : ∀ a, qg_n h a ≤ qg_n (qs_n h r) a := fun a => by rw [qnn]; split <;> omega
  have hρ := qr_up_le (n := qg_n h) ρ (r := r) (q := H.size)
  have kk := K p l e s m args below meth c0 Q D sz ρ0 (qr_up ρ r (qg_n h r) H.size) H1 locs ls X ⟨⟨fun a => Nat.le_trans (S.1.1 a) (hle a), fun a b hb => (hρ a b (Nat.lt_of_lt_of_le hb (S.1.1 a))).trans (S.1.2 a b hb)⟩, ⟨by rw [qc_Lm hρ S.2.1.2]; exact S.2.1.1, qk_Lm hle S.2.1.2⟩, qk_c (fun b hb => by cases hb; show qg_n h r < _; rw [qnn, if_pos rfl]; exact Nat.lt_succ_self _) (qk_lm hle (qk_t S.2.2.1)), ⟨A.new hr hat (fun q hq => o1 q hq) z1, S.2.2.2.1.2⟩, ⟨Nat.le_trans S.2.2.2.2.1.1 (by omega), fun x h1 h2 => (o1 x (Nat.lt_of_lt_of_le h1 S.2.2.2.2.1.1)).trans (S.2.2.2.2.1.2.1 x h1 h2), S.2.2.2.2.1.2.2⟩, S.2.2.2.2.2⟩ E
  have e9 : (qv_r (some (r, qg_n h r)) :: st).map (qc_v (qr_up ρ r (qg_n h r) H.size)) = .ref H.size :: st.map (qc_v ρ) := by
    rw [List.map_cons, qc_lm hρ (qk_t S.2.2.1)]
    show Value.ref (qr_up ρ r (qg_n h r) H.size r (qg_n h r)) :: _ = _
    rw [qr_up_eq]
  rw [e9] at kk
  exact kk
theorem V_sld (n : Nat) {x : Int32} (hd : decode cc pc = .ok (.iaload, 1)) (hn : pc + 1 = n) (hin : vp_in x (qg_l h 0 i 0).toNatClampNeg) (K : Vw y cc nL ret R mc ms n0 Post n L ((.inl (qg_i h 0 i x.toNatClampNeg)) :: st) h cells slots) : Vw y cc nL ret R mc ms n0 Post pc L (.inl x :: (.inr (.inr (some (0, i)))) :: st) h cells slots := by
  subst hn
  intro p l e s m args below meth c0 Q D sz ρ0 ρ H locs ls X S E
  obtain ⟨-, scr, b1, b2, b3, b4, b5⟩ := S.2.2.2.1.1.2.2.2.2.2.2 i (qk_h (qk_t S.2.2.1) (0, i) rfl)
  have hlt : x.toNatClampNeg < (qg_l h 0 i 0).toNatClampNeg := Nat.not_le.mp fun q => hin (Or.inr q)
  exact W.iald (v := .int (qg_i h 0 i x.toNatClampNeg)) X.1 X.2.1 b1 b2 b3 (by rw [b4]; exact hin) (b5 _ hlt) rfl rfl hd (K p l e s m args below meth c0 Q D sz ρ0 ρ H locs ls X (S.stk (fun z => qk_c trivial (qk_t (qk_t z)))) E)
theorem V_slen (n : Nat) (hd : decode cc pc = .ok (.arraylength, 1)) (hn : pc + 1 = n) (K : Vw y cc nL ret R mc ms n0 Post n L ((.inl (Int32.ofNat (qg_l h 0 i 0).toNatClampNeg)) :: st) h cells slots) : Vw y cc nL ret R mc ms n0 Post pc L ((.inr (.inr (some (0, i)))) :: st) h cells slots := by
  subst hn
  intro p l e s m args below meth c0 Q D sz ρ0 ρ H locs ls X S E
  obtain ⟨-, scr, b1, b2, b3, b4, b5⟩ := S.2.2.2.1.1.2.2.2.2.2.2 i (qk_h S.2.2.1 (0, i) rfl)
  exact W.alen (n := Int32.ofNat (qg_l h 0 i 0).toNatClampNeg) X.1 X.2.1 b1 b2 (by rw [b4] <;> rfl) rfl rfl hd (K p l e s m args below meth c0 Q D sz ρ0 ρ H locs ls X (S.stk (fun z => qk_c trivial (qk_t z))) E)
theorem V_objInit (n : Nat) {v : Option (Nat × Nat)} {idx : Nat} (hv : ∃ a, v = some a) (hd : decode cc pc = .ok (.invokespecial idx, 3)) (hn : pc + 3 = n) (hw1 : Cond.methodLink y.cls idx objectInit ∈ lw_tbl) (hw2 : Cond.instanceMethod objectInit ∈ lw_tbl) (hw3 : Cond.code objectInit ⟨#[0xb1]⟩ 1 none ∈ lw_tbl) (hf : 1 ≤ R.frames) (hlo : ((st.map (qc_v (fun _ _ => 0))).map fun v => v.category).sum + 12 ≤ R.locals) (K : Vw y cc nL ret R mc ms n0 Post n L st h cells slots) : Vw y cc nL ret R mc ms n0 Post pc L ((.inr (.inr v)) :: st) h cells slots := by
  subst hn
  intro p l e s m args below meth c0 Q D sz ρ0 ρ H locs ls X S E
  obtain ⟨a, rfl⟩ := hv
  refine W.objInit X.1 X.2.1 X.2.2.2.1 (X.2.2.2.2.1 _ (gd_in hw1 rfl)) (X.2.2.2.2.1 _ (gd_in hw2 rfl)) (X.2.2.2.2.1 _ (gd_in hw3 rfl)) rfl (by rw [X.2.2.1]; exact S.2.1.1.1) rfl hd hf ?_ (K p l e s m args below meth c0 Q D sz ρ0 ρ H locs ls X (S.stk (fun z => qk_t z)) E)
  have e : ((st.map (qc_v ρ)).map fun v => v.category) = ((st.map (qc_v (fun _ _ => 0))).map fun v => v.category) := by
    rw [List.map_map, List.map_map]
    exact List.map_congr_left (fun v _ => qc_cat _ _ v)
  rw [e]
  show 2 * 0 + _ + 12 ≤ _
  omega
end VH
end
section
/-! Contracts and calls -/
def qQ (D : va_G) (sz : Nat) (ρ : Nat → Nat → Nat) (n : Nat → Nat) (Post : Option qV → qH → Prop) : Array Value → State → Outcome → State → Prop := fun _ st o t =>
  (∃ (v : Option qV) (h' : qH) (ρ' : Nat → Nat → Nat), o = .returned (v.map (qc_v ρ')) ∧ Post v h' ∧ qk_l (qg_n h') v.toList ∧ (∀ r, n r ≤ qg_n h' r) ∧ (∀ r i, i < n r → ρ' r i = ρ r i) ∧ qa_R D sz ρ' h' t t.heap) ∧ va_F (fun q => sz ≤ q) st t
abbrev qrm (d lo mc ms : Nat) : Room := { frames := d, cells := mc, slots := ms, locals := lo }
def qPc (D : va_G) (sz : Nat) (ρ : Nat → Nat → Nat) (as : List qV) (h : qH) : Array Value → State → Prop := va_Pc (as.map (qc_v ρ)) (fun U => qa_R D sz ρ h U U.heap ∧ qa_N U ∧ sz ≤ U.heap.size)
def qM (y : MethodName) (cc : ByteArray) (nL : Nat) (ret : Option FieldType) (d lo mc ms : Nat) (as : List qV) (h : qH) (Post : Option qV → qH → Prop) : Prop :=
  ∀ (l : Launch) (D : va_G) (sz : Nat) (ρ : Nat → Nat → Nat), qk_l (qg_n h) as → Met l y (.code y cc nL ret :: lw_good) (qrm d lo mc ms) (qPc D sz ρ as h) (qQ D sz ρ (qg_n h) Post) mc ms (fun q => sz ≤ q)
def qar : Nat → List qV → List (Nat × qV)
  | _, [] => []
  | i, v :: vs => (i, v) :: qar (if (qc_v (fun _ _ => 0) v).category = 2 then i + 2 else i + 1) vs
theorem qar_map (ρ : Nat → Nat → Nat) : ∀ (as : List qV) (i : Nat), (qar i as).map (fun q => (q.1, qc_v ρ q.2)) = lv_args i (as.map (qc_v ρ))
  | [], _ => rfl
  | v :: vs, i => by
    simp only [qar, List.map_cons, lv_args, qar_map ρ vs, qc_cat ρ (fun _ _ => 0)]
theorem qar_cl {n : Nat → Nat} : ∀ (as : List qV) (i : Nat), qk_l n as → qk_L n (qar i as)
  | [], _, _ => fun q h => by cases h
  | v :: vs, i, h => fun q hq => by
    unfold qar at hq
    rcases List.mem_cons.mp hq with rfl | hq
    · exact qk_h h
    · exact qar_cl vs _ (qk_t h) q hq
def qsl (as : List qV) : Nat := match as with
  | [] => 0
  | v :: vs => (if (qc_v (fun _ _ => 0) v).category = 2 then 2 else 1) + qsl vs
theorem qsl_len (ρ : Nat → Nat → Nat) : ∀ as : List qV, (lg_sl (as.map (qc_v ρ))).length = qsl as
  | [] => rfl
  | v :: vs => by
    have := qsl_len ρ vs
    simp only [lg_sl, List.map_cons, List.flatMap_cons, List.length_append, qsl] at this ⊢
    rw [this, qc_cat ρ (fun _ _ => 0)]
    split <;> rfl
theorem qMet_of {l : Launch} {y : MethodName} {ws ws' : List Cond} {rm : Room} {Pc : Array Value → State → Prop} {Qc : Array Value → State → Outcome → State → Prop} {mc ms : Nat} {free : Addr → Prop} {cc : ByteArray} {maxL : Nat} {ret : Option FieldType} (hy : plainFor y = true) (hw : ws = Cond.code y cc maxL ret :: ws')
    (body : ∀ p e s m args below meth c s₁, BodyLoose p l y (headSpec ws rm) cc maxL ret e s m args below meth c s₁ → c.maxLocals = maxL → Pc args s → W p l e (headSpec ws rm).room s m args below meth c s.heap [] 0 0 (MQ below Qc args s mc ms free) (entryFrame m args maxL)) : Met l y ws rm Pc Qc mc ms free := by
  refine MetFree.of_bodySF (code := cc) (maxLocals := maxL) (ret := ret) hy ?_ ?_
  · intro args s m h hn
    obtain ⟨meth, c, h1, h2, h3, h4, h5, h6, -, -⟩ := Cond.code_spec hn (atoms_spec (ws := ws) h _ (by rw [hw]; exact List.mem_cons_self))
    exact ⟨meth, c, h1, h2, h3, h4, h5, h6⟩
  · intro p e s m args below meth c s₁ B hml hP _
    obtain ⟨t, a1, o, b1, b2, b3⟩ := body p e s m args below meth c s₁ B hml hP s₁ (by rw [B.state]; rfl) (Stand.of_body B)
    exact ⟨t, o, a1, b1, b2, ⟨b3.1, b3.2⟩⟩
theorem qM.of {y : MethodName} {cc : ByteArray} {nL : Nat} {ret : Option FieldType} {d lo mc ms : Nat} {as : List qV} {h : qH} {Post : Option qV → qH → Prop} (hy : plainFor y = true) (hL : qsl as ≤ nL)
    (body : Vw y cc nL ret (qrm d lo mc ms) mc ms (qg_n h) Post 0 (qar 0 as) [] h 0 0) : qM y cc nL ret d lo mc ms as h Post := by
  intro l D sz ρ hcl
  refine qMet_of (cc := cc) (maxL := nL) (ret := ret) hy rfl ?_
  intro p e s m args below meth c s₁ B hml hv
  obtain ⟨rfl, hR, hN, hsz⟩ := hv
  have hts := atoms_spec (ws := .code y cc nL ret :: lw_good) B.pre
  have X : qX y cc nL ret p s m (as.map (qc_v ρ)).toArray meth c := ⟨B.exec, B.bytes, hml, findClass_of_methodNamed B.named, fun w hw => hts w (List.mem_cons_of_mem _ hw), B.returns, B.notSynchronized, (name_of_methodNamed B.named B.method).1⟩
  have hl := lv_entry (as.map (qc_v ρ)) (n := nL) (by rw [qsl_len]; exact hL)
  rw [lg_entry_eq]
  generalize (lg_sl (as.map (qc_v ρ)) ++ List.replicate (nL - (lg_sl (as.map (qc_v ρ))).length) Slot.unset).toArray = ls at hl ⊢
  rw [← qar_map] at hl
  refine body p l e s m (as.map (qc_v ρ)).toArray below meth c _ D sz ρ ρ s.heap [] ls X ⟨⟨fun _ => Nat.le_refl _, fun _ _ _ => rfl⟩, ⟨hl, qar_cl as 0 hcl⟩, qk_nil, ⟨hR, hN⟩, va_S.rf, hsz⟩ ?_
  intro v h' ρ' H' locs' cells' slots' pc' ls' hP h1 h2 hB S
  refine W.widen h1 h2 ?_
  have hlocks := B.notSynchronized
  have fin : ∀ t : State, t.heap = H' → s.WarmedH t.vm → qQ D sz ρ (qg_n h) Post (as.map (qc_v ρ)).toArray s (.returned (v.map (qc_v ρ'))) t := fun t ht hW =>
    ⟨⟨v, h', ρ', rfl, hP, S.2.2.1, S.1.1, S.1.2, by rw [ht]; exact S.2.2.2.1.1.moved hW.alike⟩, S.2.2.2.2.1.F ht⟩
  rcases v with _ | x | x | x
  · exact W.vret X.1 X.2.1 (B.returns.trans hB.2) fin S.2.2.2.2.1.2.2 hB.1
  · obtain ⟨hd, ty, hr, hn⟩ := hB
    exact W.zret X.1 X.2.1 (B.returns.trans hr) hn fin S.2.2.2.2.1.2.2 hd
  · exact W.lret X.1 X.2.1 (B.returns.trans hB.2) fin S.2.2.2.2.1.2.2 hB.1
  · obtain ⟨hd, ty, hr, hn⟩ := hB
    refine W.aret X.1 X.2.1 (B.returns.trans hr) hn ?_ fin S.2.2.2.2.1.2.2 hd
    cases x with
    | none => exact Or.inl rfl
    | some a => exact Or.inr ⟨_, rfl⟩
/-- the kinds of ends -/
def pI (f : Int32 → qH → Prop) : Option qV → qH → Prop := fun v h => ∃ x, v = some (.inl x) ∧ f x h
def pL (f : Int64 → qH → Prop) : Option qV → qH → Prop := fun v h => ∃ x, v = some (.inr (.inl x)) ∧ f x h
def pR (f : Option (Nat × Nat) → qH → Prop) : Option qV → qH → Prop := fun v h => ∃ x, v = some (.inr (.inr x)) ∧ f x h
def pV (f : qH → Prop) : Option qV → qH → Prop := fun v h => v = none ∧ f h
theorem gd_g {ws : List Cond} (h : ∀ w ∈ ws, w ∈ lw_good) : GoodIn lw_good ws := fun w hw => gd_ok w (h w hw)
/-- what the tables say of a call site -/
def qcV (own : String) (idx : Nat) (y : MethodName) (cc : ByteArray) (nL : Nat) (ret : Option FieldType) (n : Nat) : Prop :=
  (Cond.methodLink own idx y ∈ lw_tbl ∧ Cond.instanceMethod y ∈ lw_tbl ∧ Cond.selects y.cls y y ∈ lw_tbl ∧ Cond.initialized y.cls ∈ lw_tbl ∧ Cond.code y cc nL ret ∈ lw_tbl) ∧ (y.cls ≠ "java/lang/invoke/MethodHandle" ∧ y.cls ≠ "java/lang/invoke/VarHandle" ∧ (parseMethodDescriptor y.desc).map (fun d => d.parameters.length) = some n)
def qcS (own : String) (idx : Nat) (y : MethodName) (cc : ByteArray) (nL : Nat) (ret : Option FieldType) (n : Nat) : Prop :=
  (Cond.methodLink own idx y ∈ lw_tbl ∧ Cond.static y ∈ lw_tbl ∧ Cond.initialized y.cls ∈ lw_tbl ∧ Cond.code y cc nL ret ∈ lw_tbl) ∧ (y.cls ≠ "java/lang/invoke/MethodHandle" ∧ y.cls ≠ "java/lang/invoke/VarHandle" ∧ (parseMethodDescriptor y.desc).map (fun d => d.parameters.length) = some n)
def qcI (own : String) (idx : Nat) (y : MethodName) (cc : ByteArray) (nL : Nat) (n : Nat) : Prop :=
  (Cond.methodLink own idx y ∈ lw_tbl ∧ Cond.instanceMethod y ∈ lw_tbl ∧ Cond.initialized y.cls ∈ lw_tbl ∧ Cond.code y cc nL none ∈ lw_tbl) ∧ (y.cls ≠ "java/lang/invoke/MethodHandle" ∧ y.cls ≠ "java/lang/invoke/VarHandle" ∧ (parseMethodDescriptor y.desc).map (fun d => d.parameters.length) = some n) ∧ y.name = "<init>"
def qcN (own : String) (idx : Nat) (y : MethodName) (cc : ByteArray) (nL : Nat) (n : Nat) : Prop :=
  ((∀ s, qa_N s → va_Nw (.methodLinkNest own idx y "QuotaMeter") s) ∧ Cond.instanceMethod y ∈ lw_tbl ∧ Cond.initialized y.cls ∈ lw_tbl ∧ Cond.code y cc nL none ∈ lw_tbl) ∧ (y.cls ≠ "java/lang/invoke/MethodHandle" ∧ y.cls ≠ "java/lang/invoke/VarHandle" ∧ (parseMethodDescriptor y.desc).map (fun d => d.parameters.length) = some n) ∧ y.name = "<init>"
theorem qPc_blind {D : va_G} {sz : Nat} {ρ : Nat → Nat → Nat} {as : List qV} {h : qH} : FrameBlind (qPc D sz ρ as h) := fun a U g mk q => ⟨q.1, q.2.1.moved (u := U) (U := U.calling g mk a) (Vm.Alike.refl U.vm), q.2.2.1.same rfl, q.2.2.2⟩
theorem qPc_pre {n0 : Nat → Nat} {ρ0 : Nat → Nat → Nat} {sz : Nat} {D : va_G} {s : State} {ρ : Nat → Nat → Nat} {h : qH} {H : Heap} {locs : List Loc} {ls : Array Slot} {nL : Nat} {L : List (Nat × qV)} {st as : List qV} (S : qS n0 ρ0 sz D s ρ h H locs ls nL L st) : ∀ U : State, U.heap = H → s.WarmedH U.vm → qPc D sz ρ as h (as.map (qc_v ρ)).toArray U := fun U hU hW => ⟨rfl, by rw [hU]; exact S.2.2.2.1.1.moved hW.alike, S.2.2.2.1.2.warm hW, by rw [hU]; exact S.2.2.2.1.1.2.2.2.2.2.1⟩
section CALL
variable {y : MethodName} {cc : ByteArray} {nL : Nat} {ret : Option FieldType} {R : Room} {mc ms : Nat} {n0 : Nat → Nat} {Post : Option qV → qH → Prop} {pc : Nat} {L : List (Nat × qV)} {st : List qV} {h : qH} {cells slots : Nat}
variable {p : Program} {l : Launch} {e : Env} {s : State} {m : MethodId} {args : Array Value} {below : List Frame} {meth : Method} {c0 : Code} {Q : State → Prop} {D : va_G} {sz : Nat} {ρ0 ρ : Nat → Nat → Nat} {H : Heap} {locs : List Loc} {ls : Array Slot}
/-- behind a call -/
theorem qw_back {mc2 ms2 : Nat} {st0 : List Value} {rest : List qV} {Post2 : Option qV → qH → Prop} {a : Array Value} (X : qX y cc nL ret p s m args meth c0) (S : qS n0 ρ0 sz D s ρ h H locs ls nL L st) (hrest : qk_l (qg_n h) rest)
    (run : va_Run p l e R s m args below meth c0 H locs cells slots mc2 ms2 (F0 m pc ls st0) (rest.map (qc_v ρ)) (qQ D sz ρ (qg_n h) Post2 a) (fun q => sz ≤ q))
    (E : ∀ (v : Option qV) (h' : qH) (ρ' : Nat → Nat → Nat) (H' : Heap) (locs' : List Loc) (cells' slots' pc' : Nat) (ls' : Array Slot), Post v h' → cells' ≤ mc → slots' ≤ ms → qB cc ret pc' v → qS n0 ρ0 sz D s ρ' h' H' locs' ls' nL [] v.toList → W p l e R s m args below meth c0 H' locs' cells' slots' Q (F0 m pc' ls' (v.toList.map (qc_v ρ'))))
    (K : ∀ v h', Post2 v h' → (∀ r, qg_n h r ≤ qg_n h' r) → Vw y cc nL ret R mc ms n0 Post (pc + 3) L (v.toList ++ rest) h' (cells + mc2) (slots + ms2)) :
    W p l e R s m args below meth c0 H locs cells slots Q (F0 m pc ls st0) := by
  intro T hT Xs
  obtain ⟨v, st₀, t, T', Lo, h0, X', hL, e1, e2, ⟨⟨v', h', ρ', hv, hP, hkv, hle, hρ, hR⟩, hz, hk⟩, go⟩ := run T hT Xs
  cases hv
  rw [h0] at hz hk
  have hvm : s.vm.Alike t.vm := by rw [← e2]; exact X'.warmed.alike
  have SS : va_S (fun q => sz ≤ q) s.heap T'.heap (locs ++ Lo) := ⟨Nat.le_trans S.2.2.2.2.1.1 (by rw [e1]; exact hz), fun q h1 h2 => by rw [e1, hk q (Nat.lt_of_lt_of_le h1 S.2.2.2.2.1.1) h2]; exact S.2.2.2.2.1.2.1 q h1 h2, fun q hq => by
      rcases List.mem_append.mp hq with z | z
      · exact S.2.2.2.2.1.2.2 q z
      · exact hL q z⟩
  have kk := K v' h' hP hle p l e s m args below meth c0 Q D sz ρ0 ρ' T'.heap (locs ++ Lo) ls X ⟨⟨fun r => Nat.le_trans (S.1.1 r) (hle r), fun r i hi => (hρ r i (Nat.lt_of_lt_of_le hi (S.1.1 r))).trans (S.1.2 r i hi)⟩, ⟨by rw [qc_Lm hρ S.2.1.2]; exact S.2.1.1, qk_Lm hle S.2.1.2⟩, fun w hw => by
      rcases List.mem_append.mp hw with z | z
      · exact hkv w z
      · exact qk_vm hle (hrest w z), ⟨by rw [e1]; exact hR.moved hvm.symm, S.2.2.2.1.2⟩, SS, S.2.2.2.2.2⟩ E
  obtain ⟨t2, a1, b1⟩ := kk T' rfl X'
  refine ⟨t2, go t2 ?_, b1⟩
  have e9 : (v'.toList ++ rest).map (qc_v ρ') = (v'.map (qc_v ρ')).toList ++ rest.map (qc_v ρ) := by
    rw [List.map_append, qc_lm hρ hrest]
    cases v' <;> rfl
  rw [e9] at a1
  exact a1
theorem qcat_sum (st : List qV) : ((st.map (qc_v ρ)).map fun v => v.category).sum = ((st.map (qc_v (fun _ _ => 0))).map fun v => v.category).sum := by
  have e : ((st.map (qc_v ρ)).map fun v => v.category) = ((st.map (qc_v (fun _ _ => 0))).map fun v => v.category) := by
    rw [List.map_map, List.map_map]
    exact List.map_congr_left (fun v _ => qc_cat _ _ v)
  rw [e]
theorem qk_app {n : Nat → Nat} {a b : List qV} (h : qk_l n (a ++ b)) : qk_l n a ∧ qk_l n b := ⟨fun v hv => h v (List.mem_append_left _ hv), fun v hv => h v (List.mem_append_right _ hv)⟩
theorem qk_rev {n : Nat → Nat} {a : List qV} (h : qk_l n a.reverse) : qk_l n a := fun v hv => h v (List.mem_reverse.mpr hv)
end CALL
section CALLV
variable {y : MethodName} {cc : ByteArray} {nL : Nat} {ret : Option FieldType} {R : Room} {mc ms : Nat} {n0 : Nat → Nat} {Post : Option qV → qH → Prop} {pc : Nat} {L : List (Nat × qV)} {h : qH} {cells slots : Nat}
variable {y2 : MethodName} {cc2 : ByteArray} {nL2 : Nat} {ret2 : Option FieldType} {d2 lo2 mc2 ms2 idx : Nat} {rest : List qV} {Post2 : Option qV → qH → Prop}
theorem V_cVg {r i c : Nat} (as : List qV) (hs : qcV y.cls idx y2 cc2 nL2 ret2 as.length) (hk : rg_k r = .inl c) (hC : rg_C c = y2.cls) (hr : r ≠ 0) (hd : decode cc pc = .ok (.invokevirtual idx, 3)) (hR : d2 + 1 ≤ R.frames ∧ 8 + (nL2 + 11) + lo2 ≤ R.locals) (hW : ((rest.map (qc_v (fun _ _ => 0))).map fun v => v.category).sum ≤ 8) (hf : cells + mc2 ≤ R.cells ∧ slots + ms2 ≤ R.slots)
    (M : qM y2 cc2 nL2 ret2 d2 lo2 mc2 ms2 (qv_r (some (r, i)) :: as) h Post2)
    (K : ∀ v h', Post2 v h' → (∀ r, qg_n h r ≤ qg_n h' r) → Vw y cc nL ret R mc ms n0 Post (pc + 3) L (v.toList ++ rest) h' (cells + mc2) (slots + ms2)) :
    Vw y cc nL ret R mc ms n0 Post pc L (as.reverse ++ qv_r (some (r, i)) :: rest) h cells slots := by
  intro p l e s m args below meth c0 Q D sz ρ0 ρ H locs ls X S E
  obtain ⟨k1, k2⟩ := qk_app S.2.2.1
  have hi : i < qg_n h r := qk_h k2 (r, i) rfl
  obtain ⟨hc9, cell, g1, g2, g3, -⟩ := (qa_at_o hk).mp (S.2.2.2.1.1.1 r i hi hr).1
  have hcls := (S.2.2.2.1.1.2.2.2.2.1.1.1 c _ (rg_cl c hc9)).2
  obtain ⟨⟨w1, w2, w3, w4, w5⟩, hd2⟩ := hs
  refine qw_back X S (qk_t k2) (va_runV (As := as.map (qc_v ρ)) (C := y2.cls) (b := ρ r i) (n := as.length) ⟨X.1, X.2.1, X.2.2.1, X.2.2.2.1, X.2.2.2.2.1⟩ (M l D sz ρ (qk_c (qk_h k2) (qk_rev k1))) (cwV as.length X.2.2.2.2.1 (gd_g (fun w hw => ?_)) rfl rfl rfl ⟨rfl, hd2⟩ hR) ⟨qPc_blind, ⟨cell, g1, by rw [g3]; rfl, by rw [g2, ← hC]; exact hcls.1⟩, qPc_pre S⟩ rfl (by simp) S.2.1.1.1 (by simp [qc_v, qc_o, va_rf]) (lv_room (by rw [qcat_sum]; exact hW)) hd hf) E K
  rcases List.mem_append.mp hw with z | z
  · simp only [List.mem_cons, List.not_mem_nil, or_false] at z
    rcases z with rfl | rfl | rfl | rfl
    · exact gd_in w1 rfl
    · exact gd_in w2 rfl
    · exact gd_in w3 rfl
    · exact gd_in w4 rfl
  · rcases List.mem_cons.mp z with rfl | z
    · exact gd_in w5 rfl
    · exact z
theorem V_cSg (as : List qV) (hs : qcS y.cls idx y2 cc2 nL2 ret2 as.length) (hd : decode cc pc = .ok (.invokestatic idx, 3)) (hR : d2 + 1 ≤ R.frames ∧ 8 + (nL2 + 11) + lo2 ≤ R.locals) (hW : ((rest.map (qc_v (fun _ _ => 0))).map fun v => v.category).sum ≤ 8) (hf : cells + mc2 ≤ R.cells ∧ slots + ms2 ≤ R.slots)
    (M : qM y2 cc2 nL2 ret2 d2 lo2 mc2 ms2 as h Post2)
    (K : ∀ v h', Post2 v h' → (∀ r, qg_n h r ≤ qg_n h' r) → Vw y cc nL ret R mc ms n0 Post (pc + 3) L (v.toList ++ rest) h' (cells + mc2) (slots + ms2)) :
    Vw y cc nL ret R mc ms n0 Post pc L (as.reverse ++ rest) h cells slots := by
  intro p l e s m args below meth c0 Q D sz ρ0 ρ H locs ls X S E
  obtain ⟨k1, k2⟩ := qk_app S.2.2.1
  obtain ⟨⟨w1, w2, w4, w5⟩, hd2⟩ := hs
  refine qw_back X S k2 (va_runS (As := as.map (qc_v ρ)) (n := as.length) ⟨X.1, X.2.1, X.2.2.1, X.2.2.2.1, X.2.2.2.2.1⟩ (M l D sz ρ (qk_rev k1)) (va_cwS as.length X.2.2.2.2.1 (gd_g (fun w hw => ?_)) rfl rfl rfl hd2 hR) ⟨qPc_blind, qPc_pre S⟩ rfl (by simp) S.2.1.1.1 (by simp) (lv_room (by rw [qcat_sum]; exact hW)) hd hf) E K
  rcases List.mem_append.mp hw with z | z
  · simp only [List.mem_cons, List.not_mem_nil, or_false] at z
    rcases z with rfl | rfl | rfl
    · exact gd_in w1 rfl
    · exact gd_in w2 rfl
    · exact gd_in w4 rfl
  · rcases List.mem_cons.mp z with rfl | z
    · exact gd_in w5 rfl
    · exact z
theorem V_cIg {r i : Nat} (as : List qV) (hs : qcI y.cls idx y2 cc2 nL2 as.length) (hd : decode cc pc = .ok (.invokespecial idx, 3)) (hR : d2 + 1 ≤ R.frames ∧ 8 + (nL2 + 11) + lo2 ≤ R.locals) (hW : ((rest.map (qc_v (fun _ _ => 0))).map fun v => v.category).sum ≤ 8) (hf : cells + mc2 ≤ R.cells ∧ slots + ms2 ≤ R.slots)
    (M : qM y2 cc2 nL2 none d2 lo2 mc2 ms2 (qv_r (some (r, i)) :: as) h Post2)
    (K : ∀ v h', Post2 v h' → (∀ r, qg_n h r ≤ qg_n h' r) → Vw y cc nL ret R mc ms n0 Post (pc + 3) L (v.toList ++ rest) h' (cells + mc2) (slots + ms2)) :
    Vw y cc nL ret R mc ms n0 Post pc L (as.reverse ++ qv_r (some (r, i)) :: rest) h cells slots := by
  intro p l e s m args below meth c0 Q D sz ρ0 ρ H locs ls X S E
  obtain ⟨k1, k2⟩ := qk_app S.2.2.1
  obtain ⟨⟨w1, w2, w4, w5⟩, hd2, hnm⟩ := hs
  refine qw_back X S (qk_t k2) (va_runI (As := as.map (qc_v ρ)) (b := ρ r i) (n := as.length) ⟨X.1, X.2.1, X.2.2.1, X.2.2.2.1, X.2.2.2.2.1⟩ (M l D sz ρ (qk_c (qk_h k2) (qk_rev k1))) (cwI as.length X.2.2.2.2.1 (gd_g (fun w hw => ?_)) rfl rfl rfl (X.2.2.2.2.1 _ (gd_in w4 rfl)) (X.2.2.2.2.1 _ (gd_in w1 rfl)) (X.2.2.2.2.1 _ (gd_in w2 rfl)) hnm hd2 hR) ⟨qPc_blind, qPc_pre (as := qv_r (some (r, i)) :: as) S⟩ rfl (by simp) S.2.1.1.1 (by simp [qc_v, qc_o, va_rf]) (lv_room (by rw [qcat_sum]; exact hW)) hd hf) E K
  rcases List.mem_cons.mp hw with rfl | z
  · exact gd_in w5 rfl
  · exact z
theorem V_cNg {r i : Nat} (as : List qV) (hs : qcN y.cls idx y2 cc2 nL2 as.length) (hd : decode cc pc = .ok (.invokespecial idx, 3)) (hR : d2 + 1 ≤ R.frames ∧ 8 + (nL2 + 11) + lo2 ≤ R.locals) (hW : ((rest.map (qc_v (fun _ _ => 0))).map fun v => v.category).sum ≤ 8) (hf : cells + mc2 ≤ R.cells ∧ slots + ms2 ≤ R.slots)
    (M : qM y2 cc2 nL2 none d2 lo2 mc2 ms2 (qv_r (some (r, i)) :: as) h Post2)
    (K : ∀ v h', Post2 v h' → (∀ r, qg_n h r ≤ qg_n h' r) → Vw y cc nL ret R mc ms n0 Post (pc + 3) L (v.toList ++ rest) h' (cells + mc2) (slots + ms2)) :
    Vw y cc nL ret R mc ms n0 Post pc L (as.reverse ++ qv_r (some (r, i)) :: rest) h cells slots := by
  intro p l e s m args below meth c0 Q D sz ρ0 ρ H locs ls X S E
  obtain ⟨k1, k2⟩ := qk_app S.2.2.1
  obtain ⟨⟨w1, w2, w4, w5⟩, hd2, hnm⟩ := hs
  refine qw_back X S (qk_t k2) (va_runIN (As := as.map (qc_v ρ)) (b := ρ r i) (n := as.length) ⟨X.1, X.2.1, X.2.2.1, X.2.2.2.1, X.2.2.2.2.1⟩ (M l D sz ρ (qk_c (qk_h k2) (qk_rev k1))) ⟨va_cnB as.length X.2.2.2.2.1 (gd_g (fun w hw => ?_)) rfl rfl rfl (w1 s S.2.2.2.1.2) (X.2.2.2.2.1 _ (gd_in w4 rfl)) hd2 hR, hnm, X.2.2.2.2.1 _ (gd_in w2 rfl)⟩ ⟨qPc_blind, qPc_pre (as := qv_r (some (r, i)) :: as) S⟩ rfl (by simp) S.2.1.1.1 (by simp [qc_v, qc_o, va_rf]) (lv_room (by rw [qcat_sum]; exact hW)) hd hf) E K
  rcases List.mem_cons.mp hw with rfl | z
  · exact gd_in w5 rfl
  · exact z
theorem V_cV0i (n : Nat) {r i c : Nat} {f : Int32 → qH → Prop} (M : qM y2 cc2 nL2 ret2 d2 lo2 mc2 ms2 ((.inr (.inr (some (r, i)))) :: []) h (pI f)) (hs : qcV y.cls idx y2 cc2 nL2 ret2 0) (hk : rg_k r = .inl c) (hC : rg_C c = y2.cls) (hr : r ≠ 0) (hd : decode cc pc = .ok (.invokevirtual idx, 3)) (hn : pc + 3 = n) (hR : d2 + 1 ≤ R.frames ∧ 8 + (nL2 + 11) + lo2 ≤ R.locals) (hW : ((rest.map (qc_v (fun _ _ => 0))).map fun v => v.category).sum ≤ 8) (hf : cells + mc2 ≤ R.cells ∧ slots + ms2 ≤ R.slots) (K : ∀ (x : Int32) (h' : qH), f x h' → (∀ r, qg_n h r ≤ qg_n h' r) → Vw y cc nL ret R mc ms n0 Post n L (.inl x :: rest) h' (cells + mc2) (slots + ms2)) : Vw y cc nL ret R mc ms n0 Post pc L ((.inr (.inr (some (r, i)))) :: rest) h cells slots := by
  subst hn
  exact V_cVg [] hs hk hC hr hd hR hW hf M (fun v h' hp hle => by obtain ⟨x, rfl, hx⟩ := hp; exact K x h' hx hle)
theorem V_cV0l (n : Nat) {r i c : Nat} {f : Int64 → qH → Prop} (M : qM y2 cc2 nL2 ret2 d2 lo2 mc2 ms2 ((.inr (.inr (some (r, i)))) :: []) h (pL f)) (hs : qcV y.cls idx y2 cc2 nL2 ret2 0) (hk : rg_k r = .inl c) (hC : rg_C c = y2.cls) (hr : r ≠ 0) (hd : decode cc pc = .ok (.invokevirtual idx, 3)) (hn : pc + 3 = n) (hR : d2 + 1 ≤ R.frames ∧ 8 + (nL2 + 11) + lo2 ≤ R.locals) (hW : ((rest.map (qc_v (fun _ _ => 0))).map fun v => v.category).sum ≤ 8) (hf : cells + mc2 ≤ R.cells ∧ slots + ms2 ≤ R.slots) (K : ∀ (x : Int64) (h' : qH), f x h' → (∀ r, qg_n h r ≤ qg_n h' r) → Vw y cc nL ret R mc ms n0 Post n L (.inr (.inl x) :: rest) h' (cells + mc2) (slots + ms2)) : Vw y cc nL ret R mc ms n0 Post pc L ((.inr (.inr (some (r, i)))) :: rest) h cells slots := by
  subst hn
  exact V_cVg [] hs hk hC hr hd hR hW hf M (fun v h' hp hle => by obtain ⟨x, rfl, hx⟩ := hp; exact K x h' hx hle)
theorem V_cV0r (n : Nat) {r i c : Nat} {f : Option (Nat × Nat) → qH → Prop} (M : qM y2 cc2 nL2 ret2 d2 lo2 mc2 ms2 ((.inr (.inr (some (r, i)))) :: []) h (pR f)) (hs : qcV y.cls idx y2 cc2 nL2 ret2 0) (hk : rg_k r = .inl c) (hC : rg_C c = y2.cls) (hr : r ≠ 0) (hd : decode cc pc = .ok (.invokevirtual idx, 3)) (hn : pc + 3 = n) (hR : d2 + 1 ≤ R.frames ∧ 8 + (nL2 + 11) + lo2 ≤ R.locals) (hW : ((rest.map (qc_v (fun _ _ => 0))).map fun v => v.category).sum ≤ 8) (hf : cells + mc2 ≤ R.cells ∧ slots + ms2 ≤ R.slots) (K : ∀ (x : Option (Nat × Nat)) (h' : qH), f x h' → (∀ r, qg_n h r ≤ qg_n h' r) → Vw y cc nL ret R mc ms n0 Post n L (.inr (.inr x) :: rest) h' (cells + mc2) (slots + ms2)) : Vw y cc nL ret R mc ms n0 Post pc L ((.inr (.inr (some (r, i)))) :: rest) h cells slots := by
  subst hn
  exact V_cVg [] hs hk hC hr hd hR hW hf M (fun v h' hp hle => by obtain ⟨x, rfl, hx⟩ := hp; exact K x h' hx hle)
theorem V_cV0v (n : Nat) {r i c : Nat} {f : qH → Prop} (M : qM y2 cc2 nL2 ret2 d2 lo2 mc2 ms2 ((.inr (.inr (some (r, i)))) :: []) h (pV f)) (hs : qcV y.cls idx y2 cc2 nL2 ret2 0) (hk : rg_k r = .inl c) (hC : rg_C c = y2.cls) (hr : r ≠ 0) (hd : decode cc pc = .ok (.invokevirtual idx, 3)) (hn : pc + 3 = n) (hR : d2 + 1 ≤ R.frames ∧ 8 + (nL2 + 11) + lo2 ≤ R.locals) (hW : ((rest.map (qc_v (fun _ _ => 0))).map fun v => v.category).sum ≤ 8) (hf : cells + mc2 ≤ R.cells ∧ slots + ms2 ≤ R.slots) (K : ∀ (h' : qH), f h' → (∀ r, qg_n h r ≤ qg_n h' r) → Vw y cc nL ret R mc ms n0 Post n L (rest) h' (cells + mc2) (slots + ms2)) : Vw y cc nL ret R mc ms n0 Post pc L ((.inr (.inr (some (r, i)))) :: rest) h cells slots := by
  subst hn
  exact V_cVg [] hs hk hC hr hd hR hW hf M (fun v h' hp hle => by obtain ⟨rfl, hx⟩ := hp; exact K h' hx hle)
theorem V_cV1i (n : Nat) {r i c : Nat} {a1 : qV} {f : Int32 → qH → Prop} (M : qM y2 cc2 nL2 ret2 d2 lo2 mc2 ms2 ((.inr (.inr (some (r, i)))) :: [a1]) h (pI f)) (hs : qcV y.cls idx y2 cc2 nL2 ret2 1) (hk : rg_k r = .inl c) (hC : rg_C c = y2.cls) (hr : r ≠ 0) (hd : decode cc pc = .ok (.invokevirtual idx, 3)) (hn : pc + 3 = n) (hR : d2 + 1 ≤ R.frames ∧ 8 + (nL2 + 11) + lo2 ≤ R.locals) (hW : ((rest.map (qc_v (fun _ _ => 0))).map fun v => v.category).sum ≤ 8) (hf : cells + mc2 ≤ R.cells ∧ slots + ms2 ≤ R.slots) (K : ∀ (x : Int32) (h' : qH), f x h' → (∀ r, qg_n h r ≤ qg_n h' r) → Vw y cc nL ret R mc ms n0 Post n L (.inl x :: rest) h' (cells + mc2) (slots + ms2)) : Vw y cc nL ret R mc ms n0 Post pc L (a1 :: (.inr (.inr (some (r, i)))) :: rest) h cells slots := by
  subst hn
  exact V_cVg [a1] hs hk hC hr hd hR hW hf M (fun v h' hp hle => by obtain ⟨x, rfl, hx⟩ := hp; exact K x h' hx hle)
theorem V_cV1l (n : Nat) {r i c : Nat} {a1 : qV} {f : Int64 → qH → Prop} (M : qM y2 cc2 nL2 ret2 d2 lo2 mc2 ms2 ((.inr (.inr (some (r, i)))) :: [a1]) h (pL f)) (hs : qcV y.cls idx y2 cc2 nL2 ret2 1) (hk : rg_k r = .inl c) (hC : rg_C c = y2.cls) (hr : r ≠ 0) (hd : decode cc pc = .ok (.invokevirtual idx, 3)) (hn : pc + 3 = n) (hR : d2 + 1 ≤ R.frames ∧ 8 + (nL2 + 11) + lo2 ≤ R.locals) (hW : ((rest.map (qc_v (fun _ _ => 0))).map fun v => v.category).sum ≤ 8) (hf : cells + mc2 ≤ R.cells ∧ slots + ms2 ≤ R.slots) (K : ∀ (x : Int64) (h' : qH), f x h' → (∀ r, qg_n h r ≤ qg_n h' r) → Vw y cc nL ret R mc ms n0 Post n L (.inr (.inl x) :: rest) h' (cells + mc2) (slots + ms2)) : Vw y cc nL ret R mc ms n0 Post pc L (a1 :: (.inr (.inr (some (r, i)))) :: rest) h cells slots := by
  subst hn
  exact V_cVg [a1] hs hk hC hr hd hR hW hf M (fun v h' hp hle => by obtain ⟨x, rfl, hx⟩ := hp; exact K x h' hx hle)
theorem V_cV1r (n : Nat) {r i c : Nat} {a1 : qV} {f : Option (Nat × Nat) → qH → Prop} (M : qM y2 cc2 nL2 ret2 d2 lo2 mc2 ms2 ((.inr (.inr (some (r, i)))) :: [a1]) h (pR f)) (hs : qcV y.cls idx y2 cc2 nL2 ret2 1) (hk : rg_k r = .inl c) (hC : rg_C c = y2.cls) (hr : r ≠ 0) (hd : decode cc pc = .ok (.invokevirtual idx, 3)) (hn : pc + 3 = n) (hR : d2 + 1 ≤ R.frames ∧ 8 + (nL2 + 11) + lo2 ≤ R.locals) (hW : ((rest.map (qc_v (fun _ _ => 0))).map fun v => v.category).sum ≤ 8) (hf : cells + mc2 ≤ R.cells ∧ slots + ms2 ≤ R.slots) (K : ∀ (x : Option (Nat × Nat)) (h' : qH), f x h' → (∀ r, qg_n h r ≤ qg_n h' r) → Vw y cc nL ret R mc ms n0 Post n L (.inr (.inr x) :: rest) h' (cells + mc2) (slots + ms2)) : Vw y cc nL ret R mc ms n0 Post pc L (a1 :: (.inr (.inr (some (r, i)))) :: rest) h cells slots := by
  subst hn
  exact V_cVg [a1] hs hk hC hr hd hR hW hf M (fun v h' hp hle => by obtain ⟨x, rfl, hx⟩ := hp; exact K x h' hx hle)
theorem V_cV1v (n : Nat) {r i c : Nat} {a1 : qV} {f : qH → Prop} (M : qM y2 cc2 nL2 ret2 d2 lo2 mc2 ms2 ((.inr (.inr (some (r, i)))) :: [a1]) h (pV f)) (hs : qcV y.cls idx y2 cc2 nL2 ret2 1) (hk : rg_k r = .inl c) (hC : rg_C c = y2.cls) (hr : r ≠ 0) (hd : decode cc pc = .ok (.invokevirtual idx, 3)) (hn : pc + 3 = n) (hR : d2 + 1 ≤ R.frames ∧ 8 + (nL2 + 11) + lo2 ≤ R.locals) (hW : ((rest.map (qc_v (fun _ _ => 0))).map fun v => v.category).sum ≤ 8) (hf : cells + mc2 ≤ R.cells ∧ slots + ms2 ≤ R.slots) (K : ∀ (h' : qH), f h' → (∀ r, qg_n h r ≤ qg_n h' r) → Vw y cc nL ret R mc ms n0 Post n L (rest) h' (cells + mc2) (slots + ms2)) : Vw y cc nL ret R mc ms n0 Post pc L (a1 :: (.inr (.inr (some (r, i)))) :: rest) h cells slots := by
  subst hn
  exact V_cVg [a1] hs hk hC hr hd hR hW hf M (fun v h' hp hle => by obtain ⟨rfl, hx⟩ := hp; exact K h' hx hle)
theorem V_cV2i (n : Nat) {r i c : Nat} {a1 a2 : qV} {f : Int32 → qH → Prop} (M : qM y2 cc2 nL2 ret2 d2 lo2 mc2 ms2 ((.inr (.inr (some (r, i)))) :: [a1, a2]) h (pI f)) (hs : qcV y.cls idx y2 cc2 nL2 ret2 2) (hk : rg_k r = .inl c) (hC : rg_C c = y2.cls) (hr : r ≠ 0) (hd : decode cc pc = .ok (.invokevirtual idx, 3)) (hn : pc + 3 = n) (hR : d2 + 1 ≤ R.frames ∧ 8 + (nL2 + 11) + lo2 ≤ R.locals) (hW : ((rest.map (qc_v (fun _ _ => 0))).map fun v => v.category).sum ≤ 8) (hf : cells + mc2 ≤ R.cells ∧ slots + ms2 ≤ R.slots) (K : ∀ (x : Int32) (h' : qH), f x h' → (∀ r, qg_n h r ≤ qg_n h' r) → Vw y cc nL ret R mc ms n0 Post n L (.inl x :: rest) h' (cells + mc2) (slots + ms2)) : Vw y cc nL ret R mc ms n0 Post pc L (a2 :: a1 :: (.inr (.inr (some (r, i)))) :: rest) h cells slots := by
  subst hn
  exact V_cVg [a1, a2] hs hk hC hr hd hR hW hf M (fun v h' hp hle => by obtain ⟨x, rfl, hx⟩ := hp; exact K x h' hx hle)
theorem V_cV2l (n : Nat) {r i c : Nat} {a1 a2 : qV} {f : Int64 → qH → Prop} (M : qM y2 cc2 nL2 ret2 d2 lo2 mc2 ms2 ((.inr (.inr (some (r, i)))) :: [a1, a2]) h (pL f)) (hs : qcV y.cls idx y2 cc2 nL2 ret2 2) (hk : rg_k r = .inl c) (hC : rg_C c = y2.cls) (hr : r ≠ 0) (hd : decode cc pc = .ok (.invokevirtual idx, 3)) (hn : pc + 3 = n) (hR : d2 + 1 ≤ R.frames ∧ 8 + (nL2 + 11) + lo2 ≤ R.locals) (hW : ((rest.map (qc_v (fun _ _ => 0))).map fun v => v.category).sum ≤ 8) (hf : cells + mc2 ≤ R.cells ∧ slots + ms2 ≤ R.slots) (K : ∀ (x : Int64) (h' : qH), f x h' → (∀ r, qg_n h r ≤ qg_n h' r) → Vw y cc nL ret R mc ms n0 Post n L (.inr (.inl x) :: rest) h' (cells + mc2) (slots + ms2)) : Vw y cc nL ret R mc ms n0 Post pc L (a2 :: a1 :: (.inr (.inr (some (r, i)))) :: rest) h cells slots := by
  subst hn
  exact V_cVg [a1, a2] hs hk hC hr hd hR hW hf M (fun v h' hp hle => by obtain ⟨x, rfl, hx⟩ := hp; exact K x h' hx hle)
theorem V_cV2r (n : Nat) {r i c : Nat} {a1 a2 : qV} {f : Option (Nat × Nat) → qH → Prop} (M : qM y2 cc2 nL2 ret2 d2 lo2 mc2 ms2 ((.inr (.inr (some (r, i)))) :: [a1, a2]) h (pR f)) (hs : qcV y.cls idx y2 cc2 nL2 ret2 2) (hk : rg_k r = .inl c) (hC : rg_C c = y2.cls) (hr : r ≠ 0) (hd : decode cc pc = .ok (.invokevirtual idx, 3)) (hn : pc + 3 = n) (hR : d2 + 1 ≤ R.frames ∧ 8 + (nL2 + 11) + lo2 ≤ R.locals) (hW : ((rest.map (qc_v (fun _ _ => 0))).map fun v => v.category).sum ≤ 8) (hf : cells + mc2 ≤ R.cells ∧ slots + ms2 ≤ R.slots) (K : ∀ (x : Option (Nat × Nat)) (h' : qH), f x h' → (∀ r, qg_n h r ≤ qg_n h' r) → Vw y cc nL ret R mc ms n0 Post n L (.inr (.inr x) :: rest) h' (cells + mc2) (slots + ms2)) : Vw y cc nL ret R mc ms n0 Post pc L (a2 :: a1 :: (.inr (.inr (some (r, i)))) :: rest) h cells slots := by
  subst hn
  exact V_cVg [a1, a2] hs hk hC hr hd hR hW hf M (fun v h' hp hle => by obtain ⟨x, rfl, hx⟩ := hp; exact K x h' hx hle)
theorem V_cV2v (n : Nat) {r i c : Nat} {a1 a2 : qV} {f : qH → Prop} (M : qM y2 cc2 nL2 ret2 d2 lo2 mc2 ms2 ((.inr (.inr (some (r, i)))) :: [a1, a2]) h (pV f)) (hs : qcV y.cls idx y2 cc2 nL2 ret2 2) (hk : rg_k r = .inl c) (hC : rg_C c = y2.cls) (hr : r ≠ 0) (hd : decode cc pc = .ok (.invokevirtual idx, 3)) (hn : pc + 3 = n) (hR : d2 + 1 ≤ R.frames ∧ 8 + (nL2 + 11) + lo2 ≤ R.locals) (hW : ((rest.map (qc_v (fun _ _ => 0))).map fun v => v.category).sum ≤ 8) (hf : cells + mc2 ≤ R.cells ∧ slots + ms2 ≤ R.slots) (K : ∀ (h' : qH), f h' → (∀ r, qg_n h r ≤ qg_n h' r) → Vw y cc nL ret R mc ms n0 Post n L (rest) h' (cells + mc2) (slots + ms2)) : Vw y cc nL ret R mc ms n0 Post pc L (a2 :: a1 :: (.inr (.inr (some (r, i)))) :: rest) h cells slots := by
  subst hn
  exact V_cVg [a1, a2] hs hk hC hr hd hR hW hf M (fun v h' hp hle => by obtain ⟨rfl, hx⟩ := hp; exact K h' hx hle)
theorem V_cV3i (n : Nat) {r i c : Nat} {a1 a2 a3 : qV} {f : Int32 → qH → Prop} (M : qM y2 cc2 nL2 ret2 d2 lo2 mc2 ms2 ((.inr (.inr (some (r, i)))) :: [a1, a2, a3]) h (pI f)) (hs : qcV y.cls idx y2 cc2 nL2 ret2 3) (hk : rg_k r = .inl c) (hC : rg_C c = y2.cls) (hr : r ≠ 0) (hd : decode cc pc = .ok (.invokevirtual idx, 3)) (hn : pc + 3 = n) (hR : d2 + 1 ≤ R.frames ∧ 8 + (nL2 + 11) + lo2 ≤ R.locals) (hW : ((rest.map (qc_v (fun _ _ => 0))).map fun v => v.category).sum ≤ 8) (hf : cells + mc2 ≤ R.cells ∧ slots + ms2 ≤ R.slots) (K : ∀ (x : Int32) (h' : qH), f x h' → (∀ r, qg_n h r ≤ qg_n h' r) → Vw y cc nL ret R mc ms n0 Post n L (.inl x :: rest) h' (cells + mc2) (slots + ms2)) : Vw y cc nL ret R mc ms n0 Post pc L (a3 :: a2 :: a1 :: (.inr (.inr (some (r, i)))) :: rest) h cells slots := by
  subst hn
  exact V_cVg [a1, a2, a3] hs hk hC hr hd hR hW hf M (fun v h' hp hle => by obtain ⟨x, rfl, hx⟩ := hp; exact K x h' hx hle)
theorem V_cV3l (n : Nat) {r i c : Nat} {a1 a2 a3 : qV} {f : Int64 → qH → Prop} (M : qM y2 cc2 nL2 ret2 d2 lo2 mc2 ms2 ((.inr (.inr (some (r, i)))) :: [a1, a2, a3]) h (pL f)) (hs : qcV y.cls idx y2 cc2 nL2 ret2 3) (hk : rg_k r = .inl c) (hC : rg_C c = y2.cls) (hr : r ≠ 0) (hd : decode cc pc = .ok (.invokevirtual idx, 3)) (hn : pc + 3 = n) (hR : d2 + 1 ≤ R.frames ∧ 8 + (nL2 + 11) + lo2 ≤ R.locals) (hW : ((rest.map (qc_v (fun _ _ => 0))).map fun v => v.category).sum ≤ 8) (hf : cells + mc2 ≤ R.cells ∧ slots + ms2 ≤ R.slots) (K : ∀ (x : Int64) (h' : qH), f x h' → (∀ r, qg_n h r ≤ qg_n h' r) → Vw y cc nL ret R mc ms n0 Post n L (.inr (.inl x) :: rest) h' (cells + mc2) (slots + ms2)) : Vw y cc nL ret R mc ms n0 Post pc L (a3 :: a2 :: a1 :: (.inr (.inr (some (r, i)))) :: rest) h cells slots := by
  subst hn
  exact V_cVg [a1, a2, a3] hs hk hC hr hd hR hW hf M (fun v h' hp hle => by obtain ⟨x, rfl, hx⟩ := hp; exact K x h' hx hle)
theorem V_cV3r (n : Nat) {r i c : Nat} {a1 a2 a3 : qV} {f : Option (Nat × Nat) → qH → Prop} (M : qM y2 cc2 nL2 ret2 d2 lo2 mc2 ms2 ((.inr (.inr (some (r, i)))) :: [a1, a2, a3]) h (pR f)) (hs : qcV y.cls idx y2 cc2 nL2 ret2 3) (hk : rg_k r = .inl c) (hC : rg_C c = y2.cls) (hr : r ≠ 0) (hd : decode cc pc = .ok (.invokevirtual idx, 3)) (hn : pc + 3 = n) (hR : d2 + 1 ≤ R.frames ∧ 8 + (nL2 + 11) + lo2 ≤ R.locals) (hW : ((rest.map (qc_v (fun _ _ => 0))).map fun v => v.category).sum ≤ 8) (hf : cells + mc2 ≤ R.cells ∧ slots + ms2 ≤ R.slots) (K : ∀ (x : Option (Nat × Nat)) (h' : qH), f x h' → (∀ r, qg_n h r ≤ qg_n h' r) → Vw y cc nL ret R mc ms n0 Post n L (.inr (.inr x) :: rest) h' (cells + mc2) (slots + ms2)) : Vw y cc nL ret R mc ms n0 Post pc L (a3 :: a2 :: a1 :: (.inr (.inr (some (r, i)))) :: rest) h cells slots := by
  subst hn
  exact V_cVg [a1, a2, a3] hs hk hC hr hd hR hW hf M (fun v h' hp hle => by obtain ⟨x, rfl, hx⟩ := hp; exact K x h' hx hle)
theorem V_cV3v (n : Nat) {r i c : Nat} {a1 a2 a3 : qV} {f : qH → Prop} (M : qM y2 cc2 nL2 ret2 d2 lo2 mc2 ms2 ((.inr (.inr (some (r, i)))) :: [a1, a2, a3]) h (pV f)) (hs : qcV y.cls idx y2 cc2 nL2 ret2 3) (hk : rg_k r = .inl c) (hC : rg_C c = y2.cls) (hr : r ≠ 0) (hd : decode cc pc = .ok (.invokevirtual idx, 3)) (hn : pc + 3 = n) (hR : d2 + 1 ≤ R.frames ∧ 8 + (nL2 + 11) + lo2 ≤ R.locals) (hW : ((rest.map (qc_v (fun _ _ => 0))).map fun v => v.category).sum ≤ 8) (hf : cells + mc2 ≤ R.cells ∧ slots + ms2 ≤ R.slots) (K : ∀ (h' : qH), f h' → (∀ r, qg_n h r ≤ qg_n h' r) → Vw y cc nL ret R mc ms n0 Post n L (rest) h' (cells + mc2) (slots + ms2)) : Vw y cc nL ret R mc ms n0 Post pc L (a3 :: a2 :: a1 :: (.inr (.inr (some (r, i)))) :: rest) h cells slots := by
  subst hn
  exact V_cVg [a1, a2, a3] hs hk hC hr hd hR hW hf M (fun v h' hp hle => by obtain ⟨rfl, hx⟩ := hp; exact K h' hx hle)
theorem V_cV4i (n : Nat) {r i c : Nat} {a1 a2 a3 a4 : qV} {f : Int32 → qH → Prop} (M : qM y2 cc2 nL2 ret2 d2 lo2 mc2 ms2 ((.inr (.inr (some (r, i)))) :: [a1, a2, a3, a4]) h (pI f)) (hs : qcV y.cls idx y2 cc2 nL2 ret2 4) (hk : rg_k r = .inl c) (hC : rg_C c = y2.cls) (hr : r ≠ 0) (hd : decode cc pc = .ok (.invokevirtual idx, 3)) (hn : pc + 3 = n) (hR : d2 + 1 ≤ R.frames ∧ 8 + (nL2 + 11) + lo2 ≤ R.locals) (hW : ((rest.map (qc_v (fun _ _ => 0))).map fun v => v.category).sum ≤ 8) (hf : cells + mc2 ≤ R.cells ∧ slots + ms2 ≤ R.slots) (K : ∀ (x : Int32) (h' : qH), f x h' → (∀ r, qg_n h r ≤ qg_n h' r) → Vw y cc nL ret R mc ms n0 Post n L (.inl x :: rest) h' (cells + mc2) (slots + ms2)) : Vw y cc nL ret R mc ms n0 Post pc L (a4 :: a3 :: a2 :: a1 :: (.inr (.inr (some (r, i)))) :: rest) h cells slots := by
  subst hn
  exact V_cVg [a1, a2, a3, a4] hs hk hC hr hd hR hW hf M (fun v h' hp hle => by obtain ⟨x, rfl, hx⟩ := hp; exact K x h' hx hle)
theorem V_cV4l (n : Nat) {r i c : Nat} {a1 a2 a3 a4 : qV} {f : Int64 → qH → Prop} (M : qM y2 cc2 nL2 ret2 d2 lo2 mc2 ms2 ((.inr (.inr (some (r, i)))) :: [a1, a2, a3, a4]) h (pL f)) (hs : qcV y.cls idx y2 cc2 nL2 ret2 4) (hk : rg_k r = .inl c) (hC : rg_C c = y2.cls) (hr : r ≠ 0) (hd : decode cc pc = .ok (.invokevirtual idx, 3)) (hn : pc + 3 = n) (hR : d2 + 1 ≤ R.frames ∧ 8 + (nL2 + 11) + lo2 ≤ R.locals) (hW : ((rest.map (qc_v (fun _ _ => 0))).map fun v => v.category).sum ≤ 8) (hf : cells + mc2 ≤ R.cells ∧ slots + ms2 ≤ R.slots) (K : ∀ (x : Int64) (h' : qH), f x h' → (∀ r, qg_n h r ≤ qg_n h' r) → Vw y cc nL ret R mc ms n0 Post n L (.inr (.inl x) :: rest) h' (cells + mc2) (slots + ms2)) : Vw y cc nL ret R mc ms n0 Post pc L (a4 :: a3 :: a2 :: a1 :: (.inr (.inr (some (r, i)))) :: rest) h cells slots := by
  subst hn
  exact V_cVg [a1, a2, a3, a4] hs hk hC hr hd hR hW hf M (fun v h' hp hle => by obtain ⟨x, rfl, hx⟩ := hp; exact K x h' hx hle)
theorem V_cV4r (n : Nat) {r i c : Nat} {a1 a2 a3 a4 : qV} {f : Option (Nat × Nat) → qH → Prop} (M : qM y2 cc2 nL2 ret2 d2 lo2 mc2 ms2 ((.inr (.inr (some (r, i)))) :: [a1, a2, a3, a4]) h (pR f)) (hs : qcV y.cls idx y2 cc2 nL2 ret2 4) (hk : rg_k r = .inl c) (hC : rg_C c = y2.cls) (hr : r ≠ 0) (hd : decode cc pc = .ok (.invokevirtual idx, 3)) (hn : pc + 3 = n) (hR : d2 + 1 ≤ R.frames ∧ 8 + (nL2 + 11) + lo2 ≤ R.locals) (hW : ((rest.map (qc_v (fun _ _ => 0))).map fun v => v.category).sum ≤ 8) (hf : cells + mc2 ≤ R.cells ∧ slots + ms2 ≤ R.slots) (K : ∀ (x : Option (Nat × Nat)) (h' : qH), f x h' → (∀ r, qg_n h r ≤ qg_n h' r) → Vw y cc nL ret R mc ms n0 Post n L (.inr (.inr x) :: rest) h' (cells + mc2) (slots + ms2)) : Vw y cc nL ret R mc ms n0 Post pc L (a4 :: a3 :: a2 :: a1 :: (.inr (.inr (some (r, i)))) :: rest) h cells slots := by
  subst hn
  exact V_cVg [a1, a2, a3, a4] hs hk hC hr hd hR hW hf M (fun v h' hp hle => by obtain ⟨x, rfl, hx⟩ := hp; exact K x h' hx hle)
theorem V_cV4v (n : Nat) {r i c : Nat} {a1 a2 a3 a4 : qV} {f : qH → Prop} (M : qM y2 cc2 nL2 ret2 d2 lo2 mc2 ms2 ((.inr (.inr (some (r, i)))) :: [a1, a2, a3, a4]) h (pV f)) (hs : qcV y.cls idx y2 cc2 nL2 ret2 4) (hk : rg_k r = .inl c) (hC : rg_C c = y2.cls) (hr : r ≠ 0) (hd : decode cc pc = .ok (.invokevirtual idx, 3)) (hn : pc + 3 = n) (hR : d2 + 1 ≤ R.frames ∧ 8 + (nL2 + 11) + lo2 ≤ R.locals) (hW : ((rest.map (qc_v (fun _ _ => 0))).map fun v => v.category).sum ≤ 8) (hf : cells + mc2 ≤ R.cells ∧ slots + ms2 ≤ R.slots) (K : ∀ (h' : qH), f h' → (∀ r, qg_n h r ≤ qg_n h' r) → Vw y cc nL ret R mc ms n0 Post n L (rest) h' (cells + mc2) (slots + ms2)) : Vw y cc nL ret R mc ms n0 Post pc L (a4 :: a3 :: a2 :: a1 :: (.inr (.inr (some (r, i)))) :: rest) h cells slots := by
  subst hn
  exact V_cVg [a1, a2, a3, a4] hs hk hC hr hd hR hW hf M (fun v h' hp hle => by obtain ⟨rfl, hx⟩ := hp; exact K h' hx hle)
theorem V_cV5i (n : Nat) {r i c : Nat} {a1 a2 a3 a4 a5 : qV} {f : Int32 → qH → Prop} (M : qM y2 cc2 nL2 ret2 d2 lo2 mc2 ms2 ((.inr (.inr (some (r, i)))) :: [a1, a2, a3, a4, a5]) h (pI f)) (hs : qcV y.cls idx y2 cc2 nL2 ret2 5) (hk : rg_k r = .inl c) (hC : rg_C c = y2.cls) (hr : r ≠ 0) (hd : decode cc pc = .ok (.invokevirtual idx, 3)) (hn : pc + 3 = n) (hR : d2 + 1 ≤ R.frames ∧ 8 + (nL2 + 11) + lo2 ≤ R.locals) (hW : ((rest.map (qc_v (fun _ _ => 0))).map fun v => v.category).sum ≤ 8) (hf : cells + mc2 ≤ R.cells ∧ slots + ms2 ≤ R.slots) (K : ∀ (x : Int32) (h' : qH), f x h' → (∀ r, qg_n h r ≤ qg_n h' r) → Vw y cc nL ret R mc ms n0 Post n L (.inl x :: rest) h' (cells + mc2) (slots + ms2)) : Vw y cc nL ret R mc ms n0 Post pc L (a5 :: a4 :: a3 :: a2 :: a1 :: (.inr (.inr (some (r, i)))) :: rest) h cells slots := by
  subst hn
  exact V_cVg [a1, a2, a3, a4, a5] hs hk hC hr hd hR hW hf M (fun v h' hp hle => by obtain ⟨x, rfl, hx⟩ := hp; exact K x h' hx hle)
theorem V_cV5l (n : Nat) {r i c : Nat} {a1 a2 a3 a4 a5 : qV} {f : Int64 → qH → Prop} (M : qM y2 cc2 nL2 ret2 d2 lo2 mc2 ms2 ((.inr (.inr (some (r, i)))) :: [a1, a2, a3, a4, a5]) h (pL f)) (hs : qcV y.cls idx y2 cc2 nL2 ret2 5) (hk : rg_k r = .inl c) (hC : rg_C c = y2.cls) (hr : r ≠ 0) (hd : decode cc pc = .ok (.invokevirtual idx, 3)) (hn : pc + 3 = n) (hR : d2 + 1 ≤ R.frames ∧ 8 + (nL2 + 11) + lo2 ≤ R.locals) (hW : ((rest.map (qc_v (fun _ _ => 0))).map fun v => v.category).sum ≤ 8) (hf : cells + mc2 ≤ R.cells ∧ slots + ms2 ≤ R.slots) (K : ∀ (x : Int64) (h' : qH), f x h' → (∀ r, qg_n h r ≤ qg_n h' r) → Vw y cc nL ret R mc ms n0 Post n L (.inr (.inl x) :: rest) h' (cells + mc2) (slots + ms2)) : Vw y cc nL ret R mc ms n0 Post pc L (a5 :: a4 :: a3 :: a2 :: a1 :: (.inr (.inr (some (r, i)))) :: rest) h cells slots := by
  subst hn
  exact V_cVg [a1, a2, a3, a4, a5] hs hk hC hr hd hR hW hf M (fun v h' hp hle => by obtain ⟨x, rfl, hx⟩ := hp; exact K x h' hx hle)
theorem V_cV5r (n : Nat) {r i c : Nat} {a1 a2 a3 a4 a5 : qV} {f : Option (Nat × Nat) → qH → Prop} (M : qM y2 cc2 nL2 ret2 d2 lo2 mc2 ms2 ((.inr (.inr (some (r, i)))) :: [a1, a2, a3, a4, a5]) h (pR f)) (hs : qcV y.cls idx y2 cc2 nL2 ret2 5) (hk : rg_k r = .inl c) (hC : rg_C c = y2.cls) (hr : r ≠ 0) (hd : decode cc pc = .ok (.invokevirtual idx, 3)) (hn : pc + 3 = n) (hR : d2 + 1 ≤ R.frames ∧ 8 + (nL2 + 11) + lo2 ≤ R.locals) (hW : ((rest.map (qc_v (fun _ _ => 0))).map fun v => v.category).sum ≤ 8) (hf : cells + mc2 ≤ R.cells ∧ slots + ms2 ≤ R.slots) (K : ∀ (x : Option (Nat × Nat)) (h' : qH), f x h' → (∀ r, qg_n h r ≤ qg_n h' r) → Vw y cc nL ret R mc ms n0 Post n L (.inr (.inr x) :: rest) h' (cells + mc2) (slots + ms2)) : Vw y cc nL ret R mc ms n0 Post pc L (a5 :: a4 :: a3 :: a2 :: a1 :: (.inr (.inr (some (r, i)))) :: rest) h cells slots := by
  subst hn
  exact V_cVg [a1, a2, a3, a4, a5] hs hk hC hr hd hR hW hf M (fun v h' hp hle => by obtain ⟨x, rfl, hx⟩ := hp; exact K x h' hx hle)
theorem V_cV5v (n : Nat) {r i c : Nat} {a1 a2 a3 a4 a5 : qV} {f : qH → Prop} (M : qM y2 cc2 nL2 ret2 d2 lo2 mc2 ms2 ((.inr (.inr (some (r, i)))) :: [a1, a2, a3, a4, a5]) h (pV f)) (hs : qcV y.cls idx y2 cc2 nL2 ret2 5) (hk : rg_k r = .inl c) (hC : rg_C c = y2.cls) (hr : r ≠ 0) (hd : decode cc pc = .ok (.invokevirtual idx, 3)) (hn : pc + 3 = n) (hR : d2 + 1 ≤ R.frames ∧ 8 + (nL2 + 11) + lo2 ≤ R.locals) (hW : ((rest.map (qc_v (fun _ _ => 0))).map fun v => v.category).sum ≤ 8) (hf : cells + mc2 ≤ R.cells ∧ slots + ms2 ≤ R.slots) (K : ∀ (h' : qH), f h' → (∀ r, qg_n h r ≤ qg_n h' r) → Vw y cc nL ret R mc ms n0 Post n L (rest) h' (cells + mc2) (slots + ms2)) : Vw y cc nL ret R mc ms n0 Post pc L (a5 :: a4 :: a3 :: a2 :: a1 :: (.inr (.inr (some (r, i)))) :: rest) h cells slots := by
  subst hn
  exact V_cVg [a1, a2, a3, a4, a5] hs hk hC hr hd hR hW hf M (fun v h' hp hle => by obtain ⟨rfl, hx⟩ := hp; exact K h' hx hle)
theorem V_cV6i (n : Nat) {r i c : Nat} {a1 a2 a3 a4 a5 a6 : qV} {f : Int32 → qH → Prop} (M : qM y2 cc2 nL2 ret2 d2 lo2 mc2 ms2 ((.inr (.inr (some (r, i)))) :: [a1, a2, a3, a4, a5, a6]) h (pI f)) (hs : qcV y.cls idx y2 cc2 nL2 ret2 6) (hk : rg_k r = .inl c) (hC : rg_C c = y2.cls) (hr : r ≠ 0) (hd : decode cc pc = .ok (.invokevirtual idx, 3)) (hn : pc + 3 = n) (hR : d2 + 1 ≤ R.frames ∧ 8 + (nL2 + 11) + lo2 ≤ R.locals) (hW : ((rest.map (qc_v (fun _ _ => 0))).map fun v => v.category).sum ≤ 8) (hf : cells + mc2 ≤ R.cells ∧ slots + ms2 ≤ R.slots) (K : ∀ (x : Int32) (h' : qH), f x h' → (∀ r, qg_n h r ≤ qg_n h' r) → Vw y cc nL ret R mc ms n0 Post n L (.inl x :: rest) h' (cells + mc2) (slots + ms2)) : Vw y cc nL ret R mc ms n0 Post pc L (a6 :: a5 :: a4 :: a3 :: a2 :: a1 :: (.inr (.inr (some (r, i)))) :: rest) h cells slots := by
  subst hn
  exact V_cVg [a1, a2, a3, a4, a5, a6] hs hk hC hr hd hR hW hf M (fun v h' hp hle => by obtain ⟨x, rfl, hx⟩ := hp; exact K x h' hx hle)
theorem V_cV6l (n : Nat) {r i c : Nat} {a1 a2 a3 a4 a5 a6 : qV} {f : Int64 → qH → Prop} (M : qM y2 cc2 nL2 ret2 d2 lo2 mc2 ms2 ((.inr (.inr (some (r, i)))) :: [a1, a2, a3, a4, a5, a6]) h (pL f)) (hs : qcV y.cls idx y2 cc2 nL2 ret2 6) (hk : rg_k r = .inl c) (hC : rg_C c = y2.cls) (hr : r ≠ 0) (hd : decode cc pc = .ok (.invokevirtual idx, 3)) (hn : pc + 3 = n) (hR : d2 + 1 ≤ R.frames ∧ 8 + (nL2 + 11) + lo2 ≤ R.locals) (hW : ((rest.map (qc_v (fun _ _ => 0))).map fun v => v.category).sum ≤ 8) (hf : cells + mc2 ≤ R.cells ∧ slots + ms2 ≤ R.slots) (K : ∀ (x : Int64) (h' : qH), f x h' → (∀ r, qg_n h r ≤ qg_n h' r) → Vw y cc nL ret R mc ms n0 Post n L (.inr (.inl x) :: rest) h' (cells + mc2) (slots + ms2)) : Vw y cc nL ret R mc ms n0 Post pc L (a6 :: a5 :: a4 :: a3 :: a2 :: a1 :: (.inr (.inr (some (r, i)))) :: rest) h cells slots := by
  subst hn
  exact V_cVg [a1, a2, a3, a4, a5, a6] hs hk hC hr hd hR hW hf M (fun v h' hp hle => by obtain ⟨x, rfl, hx⟩ := hp; exact K x h' hx hle)
theorem V_cV6r (n : Nat) {r i c : Nat} {a1 a2 a3 a4 a5 a6 : qV} {f : Option (Nat × Nat) → qH → Prop} (M : qM y2 cc2 nL2 ret2 d2 lo2 mc2 ms2 ((.inr (.inr (some (r, i)))) :: [a1, a2, a3, a4, a5, a6]) h (pR f)) (hs : qcV y.cls idx y2 cc2 nL2 ret2 6) (hk : rg_k r = .inl c) (hC : rg_C c = y2.cls) (hr : r ≠ 0) (hd : decode cc pc = .ok (.invokevirtual idx, 3)) (hn : pc + 3 = n) (hR : d2 + 1 ≤ R.frames ∧ 8 + (nL2 + 11) + lo2 ≤ R.locals) (hW : ((rest.map (qc_v (fun _ _ => 0))).map fun v => v.category).sum ≤ 8) (hf : cells + mc2 ≤ R.cells ∧ slots + ms2 ≤ R.slots) (K : ∀ (x : Option (Nat × Nat)) (h' : qH), f x h' → (∀ r, qg_n h r ≤ qg_n h' r) → Vw y cc nL ret R mc ms n0 Post n L (.inr (.inr x) :: rest) h' (cells + mc2) (slots + ms2)) : Vw y cc nL ret R mc ms n0 Post pc L (a6 :: a5 :: a4 :: a3 :: a2 :: a1 :: (.inr (.inr (some (r, i)))) :: rest) h cells slots := by
  subst hn
  exact V_cVg [a1, a2, a3, a4, a5, a6] hs hk hC hr hd hR hW hf M (fun v h' hp hle => by obtain ⟨x, rfl, hx⟩ := hp; exact K x h' hx hle)
theorem V_cV6v (n : Nat) {r i c : Nat} {a1 a2 a3 a4 a5 a6 : qV} {f : qH → Prop} (M : qM y2 cc2 nL2 ret2 d2 lo2 mc2 ms2 ((.inr (.inr (some (r, i)))) :: [a1, a2, a3, a4, a5, a6]) h (pV f)) (hs : qcV y.cls idx y2 cc2 nL2 ret2 6) (hk : rg_k r = .inl c) (hC : rg_C c = y2.cls) (hr : r ≠ 0) (hd : decode cc pc = .ok (.invokevirtual idx, 3)) (hn : pc + 3 = n) (hR : d2 + 1 ≤ R.frames ∧ 8 + (nL2 + 11) + lo2 ≤ R.locals) (hW : ((rest.map (qc_v (fun _ _ => 0))).map fun v => v.category).sum ≤ 8) (hf : cells + mc2 ≤ R.cells ∧ slots + ms2 ≤ R.slots) (K : ∀ (h' : qH), f h' → (∀ r, qg_n h r ≤ qg_n h' r) → Vw y cc nL ret R mc ms n0 Post n L (rest) h' (cells + mc2) (slots + ms2)) : Vw y cc nL ret R mc ms n0 Post pc L (a6 :: a5 :: a4 :: a3 :: a2 :: a1 :: (.inr (.inr (some (r, i)))) :: rest) h cells slots := by
  subst hn
  exact V_cVg [a1, a2, a3, a4, a5, a6] hs hk hC hr hd hR hW hf M (fun v h' hp hle => by obtain ⟨rfl, hx⟩ := hp; exact K h' hx hle)
theorem V_cS1i (n : Nat) {a1 : qV} {f : Int32 → qH → Prop} (M : qM y2 cc2 nL2 ret2 d2 lo2 mc2 ms2 ([a1]) h (pI f)) (hs : qcS y.cls idx y2 cc2 nL2 ret2 1) (hd : decode cc pc = .ok (.invokestatic idx, 3)) (hn : pc + 3 = n) (hR : d2 + 1 ≤ R.frames ∧ 8 + (nL2 + 11) + lo2 ≤ R.locals) (hW : ((rest.map (qc_v (fun _ _ => 0))).map fun v => v.category).sum ≤ 8) (hf : cells + mc2 ≤ R.cells ∧ slots + ms2 ≤ R.slots) (K : ∀ (x : Int32) (h' : qH), f x h' → (∀ r, qg_n h r ≤ qg_n h' r) → Vw y cc nL ret R mc ms n0 Post n L (.inl x :: rest) h' (cells + mc2) (slots + ms2)) : Vw y cc nL ret R mc ms n0 Post pc L (a1 :: rest) h cells slots := by
  subst hn
  exact V_cSg [a1] hs hd hR hW hf M (fun v h' hp hle => by obtain ⟨x, rfl, hx⟩ := hp; exact K x h' hx hle)
theorem V_cS1l (n : Nat) {a1 : qV} {f : Int64 → qH → Prop} (M : qM y2 cc2 nL2 ret2 d2 lo2 mc2 ms2 ([a1]) h (pL f)) (hs : qcS y.cls idx y2 cc2 nL2 ret2 1) (hd : decode cc pc = .ok (.invokestatic idx, 3)) (hn : pc + 3 = n) (hR : d2 + 1 ≤ R.frames ∧ 8 + (nL2 + 11) + lo2 ≤ R.locals) (hW : ((rest.map (qc_v (fun _ _ => 0))).map fun v => v.category).sum ≤ 8) (hf : cells + mc2 ≤ R.cells ∧ slots + ms2 ≤ R.slots) (K : ∀ (x : Int64) (h' : qH), f x h' → (∀ r, qg_n h r ≤ qg_n h' r) → Vw y cc nL ret R mc ms n0 Post n L (.inr (.inl x) :: rest) h' (cells + mc2) (slots + ms2)) : Vw y cc nL ret R mc ms n0 Post pc L (a1 :: rest) h cells slots := by
  subst hn
  exact V_cSg [a1] hs hd hR hW hf M (fun v h' hp hle => by obtain ⟨x, rfl, hx⟩ := hp; exact K x h' hx hle)
theorem V_cS1r (n : Nat) {a1 : qV} {f : Option (Nat × Nat) → qH → Prop} (M : qM y2 cc2 nL2 ret2 d2 lo2 mc2 ms2 ([a1]) h (pR f)) (hs : qcS y.cls idx y2 cc2 nL2 ret2 1) (hd : decode cc pc = .ok (.invokestatic idx, 3)) (hn : pc + 3 = n) (hR : d2 + 1 ≤ R.frames ∧ 8 + (nL2 + 11) + lo2 ≤ R.locals) (hW : ((rest.map (qc_v (fun _ _ => 0))).map fun v => v.category).sum ≤ 8) (hf : cells + mc2 ≤ R.cells ∧ slots + ms2 ≤ R.slots) (K : ∀ (x : Option (Nat × Nat)) (h' : qH), f x h' → (∀ r, qg_n h r ≤ qg_n h' r) → Vw y cc nL ret R mc ms n0 Post n L (.inr (.inr x) :: rest) h' (cells + mc2) (slots + ms2)) : Vw y cc nL ret R mc ms n0 Post pc L (a1 :: rest) h cells slots := by
  subst hn
  exact V_cSg [a1] hs hd hR hW hf M (fun v h' hp hle => by obtain ⟨x, rfl, hx⟩ := hp; exact K x h' hx hle)
theorem V_cS1v (n : Nat) {a1 : qV} {f : qH → Prop} (M : qM y2 cc2 nL2 ret2 d2 lo2 mc2 ms2 ([a1]) h (pV f)) (hs : qcS y.cls idx y2 cc2 nL2 ret2 1) (hd : decode cc pc = .ok (.invokestatic idx, 3)) (hn : pc + 3 = n) (hR : d2 + 1 ≤ R.frames ∧ 8 + (nL2 + 11) + lo2 ≤ R.locals) (hW : ((rest.map (qc_v (fun _ _ => 0))).map fun v => v.category).sum ≤ 8) (hf : cells + mc2 ≤ R.cells ∧ slots + ms2 ≤ R.slots) (K : ∀ (h' : qH), f h' → (∀ r, qg_n h r ≤ qg_n h' r) → Vw y cc nL ret R mc ms n0 Post n L (rest) h' (cells + mc2) (slots + ms2)) : Vw y cc nL ret R mc ms n0 Post pc L (a1 :: rest) h cells slots := by
  subst hn
  exact V_cSg [a1] hs hd hR hW hf M (fun v h' hp hle => by obtain ⟨rfl, hx⟩ := hp; exact K h' hx hle)
theorem V_cS2i (n : Nat) {a1 a2 : qV} {f : Int32 → qH → Prop} (M : qM y2 cc2 nL2 ret2 d2 lo2 mc2 ms2 ([a1, a2]) h (pI f)) (hs : qcS y.cls idx y2 cc2 nL2 ret2 2) (hd : decode cc pc = .ok (.invokestatic idx, 3)) (hn : pc + 3 = n) (hR : d2 + 1 ≤ R.frames ∧ 8 + (nL2 + 11) + lo2 ≤ R.locals) (hW : ((rest.map (qc_v (fun _ _ => 0))).map fun v => v.category).sum ≤ 8) (hf : cells + mc2 ≤ R.cells ∧ slots + ms2 ≤ R.slots) (K : ∀ (x : Int32) (h' : qH), f x h' → (∀ r, qg_n h r ≤ qg_n h' r) → Vw y cc nL ret R mc ms n0 Post n L (.inl x :: rest) h' (cells + mc2) (slots + ms2)) : Vw y cc nL ret R mc ms n0 Post pc L (a2 :: a1 :: rest) h cells slots := by
  subst hn
  exact V_cSg [a1, a2] hs hd hR hW hf M (fun v h' hp hle => by obtain ⟨x, rfl, hx⟩ := hp; exact K x h' hx hle)
theorem V_cS2l (n : Nat) {a1 a2 : qV} {f : Int64 → qH → Prop} (M : qM y2 cc2 nL2 ret2 d2 lo2 mc2 ms2 ([a1, a2]) h (pL f)) (hs : qcS y.cls idx y2 cc2 nL2 ret2 2) (hd : decode cc pc = .ok (.invokestatic idx, 3)) (hn : pc + 3 = n) (hR : d2 + 1 ≤ R.frames ∧ 8 + (nL2 + 11) + lo2 ≤ R.locals) (hW : ((rest.map (qc_v (fun _ _ => 0))).map fun v => v.category).sum ≤ 8) (hf : cells + mc2 ≤ R.cells ∧ slots + ms2 ≤ R.slots) (K : ∀ (x : Int64) (h' : qH), f x h' → (∀ r, qg_n h r ≤ qg_n h' r) → Vw y cc nL ret R mc ms n0 Post n L (.inr (.inl x) :: rest) h' (cells + mc2) (slots + ms2)) : Vw y cc nL ret R mc ms n0 Post pc L (a2 :: a1 :: rest) h cells slots := by
  subst hn
  exact V_cSg [a1, a2] hs hd hR hW hf M (fun v h' hp hle => by obtain ⟨x, rfl, hx⟩ := hp; exact K x h' hx hle)
theorem V_cS2r (n : Nat) {a1 a2 : qV} {f : Option (Nat × Nat) → qH → Prop} (M : qM y2 cc2 nL2 ret2 d2 lo2 mc2 ms2 ([a1, a2]) h (pR f)) (hs : qcS y.cls idx y2 cc2 nL2 ret2 2) (hd : decode cc pc = .ok (.invokestatic idx, 3)) (hn : pc + 3 = n) (hR : d2 + 1 ≤ R.frames ∧ 8 + (nL2 + 11) + lo2 ≤ R.locals) (hW : ((rest.map (qc_v (fun _ _ => 0))).map fun v => v.category).sum ≤ 8) (hf : cells + mc2 ≤ R.cells ∧ slots + ms2 ≤ R.slots) (K : ∀ (x : Option (Nat × Nat)) (h' : qH), f x h' → (∀ r, qg_n h r ≤ qg_n h' r) → Vw y cc nL ret R mc ms n0 Post n L (.inr (.inr x) :: rest) h' (cells + mc2) (slots + ms2)) : Vw y cc nL ret R mc ms n0 Post pc L (a2 :: a1 :: rest) h cells slots := by
  subst hn
  exact V_cSg [a1, a2] hs hd hR hW hf M (fun v h' hp hle => by obtain ⟨x, rfl, hx⟩ := hp; exact K x h' hx hle)
theorem V_cS2v (n : Nat) {a1 a2 : qV} {f : qH → Prop} (M : qM y2 cc2 nL2 ret2 d2 lo2 mc2 ms2 ([a1, a2]) h (pV f)) (hs : qcS y.cls idx y2 cc2 nL2 ret2 2) (hd : decode cc pc = .ok (.invokestatic idx, 3)) (hn : pc + 3 = n) (hR : d2 + 1 ≤ R.frames ∧ 8 + (nL2 + 11) + lo2 ≤ R.locals) (hW : ((rest.map (qc_v (fun _ _ => 0))).map fun v => v.category).sum ≤ 8) (hf : cells + mc2 ≤ R.cells ∧ slots + ms2 ≤ R.slots) (K : ∀ (h' : qH), f h' → (∀ r, qg_n h r ≤ qg_n h' r) → Vw y cc nL ret R mc ms n0 Post n L (rest) h' (cells + mc2) (slots + ms2)) : Vw y cc nL ret R mc ms n0 Post pc L (a2 :: a1 :: rest) h cells slots := by
  subst hn
  exact V_cSg [a1, a2] hs hd hR hW hf M (fun v h' hp hle => by obtain ⟨rfl, hx⟩ := hp; exact K h' hx hle)
theorem V_cS3i (n : Nat) {a1 a2 a3 : qV} {f : Int32 → qH → Prop} (M : qM y2 cc2 nL2 ret2 d2 lo2 mc2 ms2 ([a1, a2, a3]) h (pI f)) (hs : qcS y.cls idx y2 cc2 nL2 ret2 3) (hd : decode cc pc = .ok (.invokestatic idx, 3)) (hn : pc + 3 = n) (hR : d2 + 1 ≤ R.frames ∧ 8 + (nL2 + 11) + lo2 ≤ R.locals) (hW : ((rest.map (qc_v (fun _ _ => 0))).map fun v => v.category).sum ≤ 8) (hf : cells + mc2 ≤ R.cells ∧ slots + ms2 ≤ R.slots) (K : ∀ (x : Int32) (h' : qH), f x h' → (∀ r, qg_n h r ≤ qg_n h' r) → Vw y cc nL ret R mc ms n0 Post n L (.inl x :: rest) h' (cells + mc2) (slots + ms2)) : Vw y cc nL ret R mc ms n0 Post pc L (a3 :: a2 :: a1 :: rest) h cells slots := by
  subst hn
  exact V_cSg [a1, a2, a3] hs hd hR hW hf M (fun v h' hp hle => by obtain ⟨x, rfl, hx⟩ := hp; exact K x h' hx hle)
theorem V_cS3l (n : Nat) {a1 a2 a3 : qV} {f : Int64 → qH → Prop} (M : qM y2 cc2 nL2 ret2 d2 lo2 mc2 ms2 ([a1, a2, a3]) h (pL f)) (hs : qcS y.cls idx y2 cc2 nL2 ret2 3) (hd : decode cc pc = .ok (.invokestatic idx, 3)) (hn : pc + 3 = n) (hR : d2 + 1 ≤ R.frames ∧ 8 + (nL2 + 11) + lo2 ≤ R.locals) (hW : ((rest.map (qc_v (fun _ _ => 0))).map fun v => v.category).sum ≤ 8) (hf : cells + mc2 ≤ R.cells ∧ slots + ms2 ≤ R.slots) (K : ∀ (x : Int64) (h' : qH), f x h' → (∀ r, qg_n h r ≤ qg_n h' r) → Vw y cc nL ret R mc ms n0 Post n L (.inr (.inl x) :: rest) h' (cells + mc2) (slots + ms2)) : Vw y cc nL ret R mc ms n0 Post pc L (a3 :: a2 :: a1 :: rest) h cells slots := by
  subst hn
  exact V_cSg [a1, a2, a3] hs hd hR hW hf M (fun v h' hp hle => by obtain ⟨x, rfl, hx⟩ := hp; exact K x h' hx hle)
theorem V_cS3r (n : Nat) {a1 a2 a3 : qV} {f : Option (Nat × Nat) → qH → Prop} (M : qM y2 cc2 nL2 ret2 d2 lo2 mc2 ms2 ([a1, a2, a3]) h (pR f)) (hs : qcS y.cls idx y2 cc2 nL2 ret2 3) (hd : decode cc pc = .ok (.invokestatic idx, 3)) (hn : pc + 3 = n) (hR : d2 + 1 ≤ R.frames ∧ 8 + (nL2 + 11) + lo2 ≤ R.locals) (hW : ((rest.map (qc_v (fun _ _ => 0))).map fun v => v.category).sum ≤ 8) (hf : cells + mc2 ≤ R.cells ∧ slots + ms2 ≤ R.slots) (K : ∀ (x : Option (Nat × Nat)) (h' : qH), f x h' → (∀ r, qg_n h r ≤ qg_n h' r) → Vw y cc nL ret R mc ms n0 Post n L (.inr (.inr x) :: rest) h' (cells + mc2) (slots + ms2)) : Vw y cc nL ret R mc ms n0 Post pc L (a3 :: a2 :: a1 :: rest) h cells slots := by
  subst hn
  exact V_cSg [a1, a2, a3] hs hd hR hW hf M (fun v h' hp hle => by obtain ⟨x, rfl, hx⟩ := hp; exact K x h' hx hle)
theorem V_cS3v (n : Nat) {a1 a2 a3 : qV} {f : qH → Prop} (M : qM y2 cc2 nL2 ret2 d2 lo2 mc2 ms2 ([a1, a2, a3]) h (pV f)) (hs : qcS y.cls idx y2 cc2 nL2 ret2 3) (hd : decode cc pc = .ok (.invokestatic idx, 3)) (hn : pc + 3 = n) (hR : d2 + 1 ≤ R.frames ∧ 8 + (nL2 + 11) + lo2 ≤ R.locals) (hW : ((rest.map (qc_v (fun _ _ => 0))).map fun v => v.category).sum ≤ 8) (hf : cells + mc2 ≤ R.cells ∧ slots + ms2 ≤ R.slots) (K : ∀ (h' : qH), f h' → (∀ r, qg_n h r ≤ qg_n h' r) → Vw y cc nL ret R mc ms n0 Post n L (rest) h' (cells + mc2) (slots + ms2)) : Vw y cc nL ret R mc ms n0 Post pc L (a3 :: a2 :: a1 :: rest) h cells slots := by
  subst hn
  exact V_cSg [a1, a2, a3] hs hd hR hW hf M (fun v h' hp hle => by obtain ⟨rfl, hx⟩ := hp; exact K h' hx hle)
theorem V_cS4i (n : Nat) {a1 a2 a3 a4 : qV} {f : Int32 → qH → Prop} (M : qM y2 cc2 nL2 ret2 d2 lo2 mc2 ms2 ([a1, a2, a3, a4]) h (pI f)) (hs : qcS y.cls idx y2 cc2 nL2 ret2 4) (hd : decode cc pc = .ok (.invokestatic idx, 3)) (hn : pc + 3 = n) (hR : d2 + 1 ≤ R.frames ∧ 8 + (nL2 + 11) + lo2 ≤ R.locals) (hW : ((rest.map (qc_v (fun _ _ => 0))).map fun v => v.category).sum ≤ 8) (hf : cells + mc2 ≤ R.cells ∧ slots + ms2 ≤ R.slots) (K : ∀ (x : Int32) (h' : qH), f x h' → (∀ r, qg_n h r ≤ qg_n h' r) → Vw y cc nL ret R mc ms n0 Post n L (.inl x :: rest) h' (cells + mc2) (slots + ms2)) : Vw y cc nL ret R mc ms n0 Post pc L (a4 :: a3 :: a2 :: a1 :: rest) h cells slots := by
  subst hn
  exact V_cSg [a1, a2, a3, a4] hs hd hR hW hf M (fun v h' hp hle => by obtain ⟨x, rfl, hx⟩ := hp; exact K x h' hx hle)
theorem V_cS4l (n : Nat) {a1 a2 a3 a4 : qV} {f : Int64 → qH → Prop} (M : qM y2 cc2 nL2 ret2 d2 lo2 mc2 ms2 ([a1, a2, a3, a4]) h (pL f)) (hs : qcS y.cls idx y2 cc2 nL2 ret2 4) (hd : decode cc pc = .ok (.invokestatic idx, 3)) (hn : pc + 3 = n) (hR : d2 + 1 ≤ R.frames ∧ 8 + (nL2 + 11) + lo2 ≤ R.locals) (hW : ((rest.map (qc_v (fun _ _ => 0))).map fun v => v.category).sum ≤ 8) (hf : cells + mc2 ≤ R.cells ∧ slots + ms2 ≤ R.slots) (K : ∀ (x : Int64) (h' : qH), f x h' → (∀ r, qg_n h r ≤ qg_n h' r) → Vw y cc nL ret R mc ms n0 Post n L (.inr (.inl x) :: rest) h' (cells + mc2) (slots + ms2)) : Vw y cc nL ret R mc ms n0 Post pc L (a4 :: a3 :: a2 :: a1 :: rest) h cells slots := by
  subst hn
  exact V_cSg [a1, a2, a3, a4] hs hd hR hW hf M (fun v h' hp hle => by obtain ⟨x, rfl, hx⟩ := hp; exact K x h' hx hle)
theorem V_cS4r (n : Nat) {a1 a2 a3 a4 : qV} {f : Option (Nat × Nat) → qH → Prop} (M : qM y2 cc2 nL2 ret2 d2 lo2 mc2 ms2 ([a1, a2, a3, a4]) h (pR f)) (hs : qcS y.cls idx y2 cc2 nL2 ret2 4) (hd : decode cc pc = .ok (.invokestatic idx, 3)) (hn : pc + 3 = n) (hR : d2 + 1 ≤ R.frames ∧ 8 + (nL2 + 11) + lo2 ≤ R.locals) (hW : ((rest.map (qc_v (fun _ _ => 0))).map fun v => v.category).sum ≤ 8) (hf : cells + mc2 ≤ R.cells ∧ slots + ms2 ≤ R.slots) (K : ∀ (x : Option (Nat × Nat)) (h' : qH), f x h' → (∀ r, qg_n h r ≤ qg_n h' r) → Vw y cc nL ret R mc ms n0 Post n L (.inr (.inr x) :: rest) h' (cells + mc2) (slots + ms2)) : Vw y cc nL ret R mc ms n0 Post pc L (a4 :: a3 :: a2 :: a1 :: rest) h cells slots := by
  subst hn
  exact V_cSg [a1, a2, a3, a4] hs hd hR hW hf M (fun v h' hp hle => by obtain ⟨x, rfl, hx⟩ := hp; exact K x h' hx hle)
theorem V_cS4v (n : Nat) {a1 a2 a3 a4 : qV} {f : qH → Prop} (M : qM y2 cc2 nL2 ret2 d2 lo2 mc2 ms2 ([a1, a2, a3, a4]) h (pV f)) (hs : qcS y.cls idx y2 cc2 nL2 ret2 4) (hd : decode cc pc = .ok (.invokestatic idx, 3)) (hn : pc + 3 = n) (hR : d2 + 1 ≤ R.frames ∧ 8 + (nL2 + 11) + lo2 ≤ R.locals) (hW : ((rest.map (qc_v (fun _ _ => 0))).map fun v => v.category).sum ≤ 8) (hf : cells + mc2 ≤ R.cells ∧ slots + ms2 ≤ R.slots) (K : ∀ (h' : qH), f h' → (∀ r, qg_n h r ≤ qg_n h' r) → Vw y cc nL ret R mc ms n0 Post n L (rest) h' (cells + mc2) (slots + ms2)) : Vw y cc nL ret R mc ms n0 Post pc L (a4 :: a3 :: a2 :: a1 :: rest) h cells slots := by
  subst hn
  exact V_cSg [a1, a2, a3, a4] hs hd hR hW hf M (fun v h' hp hle => by obtain ⟨rfl, hx⟩ := hp; exact K h' hx hle)
theorem V_cS5i (n : Nat) {a1 a2 a3 a4 a5 : qV} {f : Int32 → qH → Prop} (M : qM y2 cc2 nL2 ret2 d2 lo2 mc2 ms2 ([a1, a2, a3, a4, a5]) h (pI f)) (hs : qcS y.cls idx y2 cc2 nL2 ret2 5) (hd : decode cc pc = .ok (.invokestatic idx, 3)) (hn : pc + 3 = n) (hR : d2 + 1 ≤ R.frames ∧ 8 + (nL2 + 11) + lo2 ≤ R.locals) (hW : ((rest.map (qc_v (fun _ _ => 0))).map fun v => v.category).sum ≤ 8) (hf : cells + mc2 ≤ R.cells ∧ slots + ms2 ≤ R.slots) (K : ∀ (x : Int32) (h' : qH), f x h' → (∀ r, qg_n h r ≤ qg_n h' r) → Vw y cc nL ret R mc ms n0 Post n L (.inl x :: rest) h' (cells + mc2) (slots + ms2)) : Vw y cc nL ret R mc ms n0 Post pc L (a5 :: a4 :: a3 :: a2 :: a1 :: rest) h cells slots := by
  subst hn
  exact V_cSg [a1, a2, a3, a4, a5] hs hd hR hW hf M (fun v h' hp hle => by obtain ⟨x, rfl, hx⟩ := hp; exact K x h' hx hle)
theorem V_cS5l (n : Nat) {a1 a2 a3 a4 a5 : qV} {f : Int64 → qH → Prop} (M : qM y2 cc2 nL2 ret2 d2 lo2 mc2 ms2 ([a1, a2, a3, a4, a5]) h (pL f)) (hs : qcS y.cls idx y2 cc2 nL2 ret2 5) (hd : decode cc pc = .ok (.invokestatic idx, 3)) (hn : pc + 3 = n) (hR : d2 + 1 ≤ R.frames ∧ 8 + (nL2 + 11) + lo2 ≤ R.locals) (hW : ((rest.map (qc_v (fun _ _ => 0))).map fun v => v.category).sum ≤ 8) (hf : cells + mc2 ≤ R.cells ∧ slots + ms2 ≤ R.slots) (K : ∀ (x : Int64) (h' : qH), f x h' → (∀ r, qg_n h r ≤ qg_n h' r) → Vw y cc nL ret R mc ms n0 Post n L (.inr (.inl x) :: rest) h' (cells + mc2) (slots + ms2)) : Vw y cc nL ret R mc ms n0 Post pc L (a5 :: a4 :: a3 :: a2 :: a1 :: rest) h cells slots := by
  subst hn
  exact V_cSg [a1, a2, a3, a4, a5] hs hd hR hW hf M (fun v h' hp hle => by obtain ⟨x, rfl, hx⟩ := hp; exact K x h' hx hle)
theorem V_cS5r (n : Nat) {a1 a2 a3 a4 a5 : qV} {f : Option (Nat × Nat) → qH → Prop} (M : qM y2 cc2 nL2 ret2 d2 lo2 mc2 ms2 ([a1, a2, a3, a4, a5]) h (pR f)) (hs : qcS y.cls idx y2 cc2 nL2 ret2 5) (hd : decode cc pc = .ok (.invokestatic idx, 3)) (hn : pc + 3 = n) (hR : d2 + 1 ≤ R.frames ∧ 8 + (nL2 + 11) + lo2 ≤ R.locals) (hW : ((rest.map (qc_v (fun _ _ => 0))).map fun v => v.category).sum ≤ 8) (hf : cells + mc2 ≤ R.cells ∧ slots + ms2 ≤ R.slots) (K : ∀ (x : Option (Nat × Nat)) (h' : qH), f x h' → (∀ r, qg_n h r ≤ qg_n h' r) → Vw y cc nL ret R mc ms n0 Post n L (.inr (.inr x) :: rest) h' (cells + mc2) (slots + ms2)) : Vw y cc nL ret R mc ms n0 Post pc L (a5 :: a4 :: a3 :: a2 :: a1 :: rest) h cells slots := by
  subst hn
  exact V_cSg [a1, a2, a3, a4, a5] hs hd hR hW hf M (fun v h' hp hle => by obtain ⟨x, rfl, hx⟩ := hp; exact K x h' hx hle)
theorem V_cS5v (n : Nat) {a1 a2 a3 a4 a5 : qV} {f : qH → Prop} (M : qM y2 cc2 nL2 ret2 d2 lo2 mc2 ms2 ([a1, a2, a3, a4, a5]) h (pV f)) (hs : qcS y.cls idx y2 cc2 nL2 ret2 5) (hd : decode cc pc = .ok (.invokestatic idx, 3)) (hn : pc + 3 = n) (hR : d2 + 1 ≤ R.frames ∧ 8 + (nL2 + 11) + lo2 ≤ R.locals) (hW : ((rest.map (qc_v (fun _ _ => 0))).map fun v => v.category).sum ≤ 8) (hf : cells + mc2 ≤ R.cells ∧ slots + ms2 ≤ R.slots) (K : ∀ (h' : qH), f h' → (∀ r, qg_n h r ≤ qg_n h' r) → Vw y cc nL ret R mc ms n0 Post n L (rest) h' (cells + mc2) (slots + ms2)) : Vw y cc nL ret R mc ms n0 Post pc L (a5 :: a4 :: a3 :: a2 :: a1 :: rest) h cells slots := by
  subst hn
  exact V_cSg [a1, a2, a3, a4, a5] hs hd hR hW hf M (fun v h' hp hle => by obtain ⟨rfl, hx⟩ := hp; exact K h' hx hle)
theorem V_cI0v (n : Nat) {r i : Nat} {f : qH → Prop} (M : qM y2 cc2 nL2 none d2 lo2 mc2 ms2 ((.inr (.inr (some (r, i)))) :: []) h (pV f)) (hs : qcI y.cls idx y2 cc2 nL2 0) (hd : decode cc pc = .ok (.invokespecial idx, 3)) (hn : pc + 3 = n) (hR : d2 + 1 ≤ R.frames ∧ 8 + (nL2 + 11) + lo2 ≤ R.locals) (hW : ((rest.map (qc_v (fun _ _ => 0))).map fun v => v.category).sum ≤ 8) (hf : cells + mc2 ≤ R.cells ∧ slots + ms2 ≤ R.slots) (K : ∀ (h' : qH), f h' → (∀ r, qg_n h r ≤ qg_n h' r) → Vw y cc nL ret R mc ms n0 Post n L (rest) h' (cells + mc2) (slots + ms2)) : Vw y cc nL ret R mc ms n0 Post pc L ((.inr (.inr (some (r, i)))) :: rest) h cells slots := by
  subst hn
  exact V_cIg [] hs hd hR hW hf M (fun v h' hp hle => by obtain ⟨rfl, hx⟩ := hp; exact K h' hx hle)
theorem V_cI1v (n : Nat) {r i : Nat} {a1 : qV} {f : qH → Prop} (M : qM y2 cc2 nL2 none d2 lo2 mc2 ms2 ((.inr (.inr (some (r, i)))) :: [a1]) h (pV f)) (hs : qcI y.cls idx y2 cc2 nL2 1) (hd : decode cc pc = .ok (.invokespecial idx, 3)) (hn : pc + 3 = n) (hR : d2 + 1 ≤ R.frames ∧ 8 + (nL2 + 11) + lo2 ≤ R.locals) (hW : ((rest.map (qc_v (fun _ _ => 0))).map fun v => v.category).sum ≤ 8) (hf : cells + mc2 ≤ R.cells ∧ slots + ms2 ≤ R.slots) (K : ∀ (h' : qH), f h' → (∀ r, qg_n h r ≤ qg_n h' r) → Vw y cc nL ret R mc ms n0 Post n L (rest) h' (cells + mc2) (slots + ms2)) : Vw y cc nL ret R mc ms n0 Post pc L (a1 :: (.inr (.inr (some (r, i)))) :: rest) h cells slots := by
  subst hn
  exact V_cIg [a1] hs hd hR hW hf M (fun v h' hp hle => by obtain ⟨rfl, hx⟩ := hp; exact K h' hx hle)
theorem V_cI2v (n : Nat) {r i : Nat} {a1 a2 : qV} {f : qH → Prop} (M : qM y2 cc2 nL2 none d2 lo2 mc2 ms2 ((.inr (.inr (some (r, i)))) :: [a1, a2]) h (pV f)) (hs : qcI y.cls idx y2 cc2 nL2 2) (hd : decode cc pc = .ok (.invokespecial idx, 3)) (hn : pc + 3 = n) (hR : d2 + 1 ≤ R.frames ∧ 8 + (nL2 + 11) + lo2 ≤ R.locals) (hW : ((rest.map (qc_v (fun _ _ => 0))).map fun v => v.category).sum ≤ 8) (hf : cells + mc2 ≤ R.cells ∧ slots + ms2 ≤ R.slots) (K : ∀ (h' : qH), f h' → (∀ r, qg_n h r ≤ qg_n h' r) → Vw y cc nL ret R mc ms n0 Post n L (rest) h' (cells + mc2) (slots + ms2)) : Vw y cc nL ret R mc ms n0 Post pc L (a2 :: a1 :: (.inr (.inr (some (r, i)))) :: rest) h cells slots := by
  subst hn
  exact V_cIg [a1, a2] hs hd hR hW hf M (fun v h' hp hle => by obtain ⟨rfl, hx⟩ := hp; exact K h' hx hle)
theorem V_cI3v (n : Nat) {r i : Nat} {a1 a2 a3 : qV} {f : qH → Prop} (M : qM y2 cc2 nL2 none d2 lo2 mc2 ms2 ((.inr (.inr (some (r, i)))) :: [a1, a2, a3]) h (pV f)) (hs : qcI y.cls idx y2 cc2 nL2 3) (hd : decode cc pc = .ok (.invokespecial idx, 3)) (hn : pc + 3 = n) (hR : d2 + 1 ≤ R.frames ∧ 8 + (nL2 + 11) + lo2 ≤ R.locals) (hW : ((rest.map (qc_v (fun _ _ => 0))).map fun v => v.category).sum ≤ 8) (hf : cells + mc2 ≤ R.cells ∧ slots + ms2 ≤ R.slots) (K : ∀ (h' : qH), f h' → (∀ r, qg_n h r ≤ qg_n h' r) → Vw y cc nL ret R mc ms n0 Post n L (rest) h' (cells + mc2) (slots + ms2)) : Vw y cc nL ret R mc ms n0 Post pc L (a3 :: a2 :: a1 :: (.inr (.inr (some (r, i)))) :: rest) h cells slots := by
  subst hn
  exact V_cIg [a1, a2, a3] hs hd hR hW hf M (fun v h' hp hle => by obtain ⟨rfl, hx⟩ := hp; exact K h' hx hle)
theorem V_cI4v (n : Nat) {r i : Nat} {a1 a2 a3 a4 : qV} {f : qH → Prop} (M : qM y2 cc2 nL2 none d2 lo2 mc2 ms2 ((.inr (.inr (some (r, i)))) :: [a1, a2, a3, a4]) h (pV f)) (hs : qcI y.cls idx y2 cc2 nL2 4) (hd : decode cc pc = .ok (.invokespecial idx, 3)) (hn : pc + 3 = n) (hR : d2 + 1 ≤ R.frames ∧ 8 + (nL2 + 11) + lo2 ≤ R.locals) (hW : ((rest.map (qc_v (fun _ _ => 0))).map fun v => v.category).sum ≤ 8) (hf : cells + mc2 ≤ R.cells ∧ slots + ms2 ≤ R.slots) (K : ∀ (h' : qH), f h' → (∀ r, qg_n h r ≤ qg_n h' r) → Vw y cc nL ret R mc ms n0 Post n L (rest) h' (cells + mc2) (slots + ms2)) : Vw y cc nL ret R mc ms n0 Post pc L (a4 :: a3 :: a2 :: a1 :: (.inr (.inr (some (r, i)))) :: rest) h cells slots := by
  subst hn
  exact V_cIg [a1, a2, a3, a4] hs hd hR hW hf M (fun v h' hp hle => by obtain ⟨rfl, hx⟩ := hp; exact K h' hx hle)
theorem V_cN0v (n : Nat) {r i : Nat} {f : qH → Prop} (M : qM y2 cc2 nL2 none d2 lo2 mc2 ms2 ((.inr (.inr (some (r, i)))) :: []) h (pV f)) (hs : qcN y.cls idx y2 cc2 nL2 0) (hd : decode cc pc = .ok (.invokespecial idx, 3)) (hn : pc + 3 = n) (hR : d2 + 1 ≤ R.frames ∧ 8 + (nL2 + 11) + lo2 ≤ R.locals) (hW : ((rest.map (qc_v (fun _ _ => 0))).map fun v => v.category).sum ≤ 8) (hf : cells + mc2 ≤ R.cells ∧ slots + ms2 ≤ R.slots) (K : ∀ (h' : qH), f h' → (∀ r, qg_n h r ≤ qg_n h' r) → Vw y cc nL ret R mc ms n0 Post n L (rest) h' (cells + mc2) (slots + ms2)) : Vw y cc nL ret R mc ms n0 Post pc L ((.inr (.inr (some (r, i)))) :: rest) h cells slots := by
  subst hn
  exact V_cNg [] hs hd hR hW hf M (fun v h' hp hle => by obtain ⟨rfl, hx⟩ := hp; exact K h' hx hle)
end CALLV
end
section
theorem tb_at {w : Cond} (j : Nat) (h : tables_1[j]? = some w) : w ∈ lw_tbl := tb_in (List.mem_of_getElem? h)
theorem pv_at {q : MethodName × Nat} (j : Nat) (h : lw_privs[j]? = some q) : Cond.selects q.1.cls q.1 q.1 ∈ lw_tbl := List.mem_append_left _ (List.mem_map.mpr ⟨q, List.mem_of_getElem? h, rfl⟩)
theorem wi_L : Cond.initialized RL ∈ lw_tbl := tb_at 0 (by decide +kernel)
theorem wi_X7 : Cond.initialized RX7 ∈ lw_tbl := tb_at 1 (by decide +kernel)
theorem wi_X4 : Cond.initialized RX4 ∈ lw_tbl := tb_at 2 (by decide +kernel)
theorem wi_X6 : Cond.initialized RX6 ∈ lw_tbl := tb_at 3 (by decide +kernel)
theorem wi_X1 : Cond.initialized RX1 ∈ lw_tbl := tb_at 4 (by decide +kernel)
theorem wi_X5 : Cond.initialized RX5 ∈ lw_tbl := tb_at 5 (by decide +kernel)
theorem wi_X8 : Cond.initialized RX8 ∈ lw_tbl := tb_at 6 (by decide +kernel)
theorem wi_X0 : Cond.initialized RX0 ∈ lw_tbl := tb_at 7 (by decide +kernel)
theorem wi_J9 : Cond.initialized RJ9 ∈ lw_tbl := tb_at 8 (by decide +kernel)
theorem wi_X2 : Cond.initialized RX2 ∈ lw_tbl := tb_at 9 (by decide +kernel)
theorem wi_X3 : Cond.initialized RX3 ∈ lw_tbl := tb_at 10 (by decide +kernel)
theorem wi_J10 : Cond.initialized RJ10 ∈ lw_tbl := tb_at 11 (by decide +kernel)
theorem wk_L_7 : Cond.classLink RL 7 RX7 ∈ lw_tbl := tb_at 12 (by decide +kernel)
theorem wn_X7 : Cond.instantiable RX7 10 ∈ lw_tbl := tb_at 13 (by decide +kernel)
theorem wk_X7_9 : Cond.classLink RX7 9 RX6 ∈ lw_tbl := tb_at 20 (by decide +kernel)
theorem wk_X7_15 : Cond.classLink RX7 15 RX0 ∈ lw_tbl := tb_at 22 (by decide +kernel)
theorem wk_X7_21 : Cond.classLink RX7 21 RX2 ∈ lw_tbl := tb_at 24 (by decide +kernel)
theorem wk_X7_27 : Cond.classLink RX7 27 RX3 ∈ lw_tbl := tb_at 26 (by decide +kernel)
theorem wk_X7_33 : Cond.classLink RX7 33 RX4 ∈ lw_tbl := tb_at 28 (by decide +kernel)
theorem wn_X4 : Cond.instantiable RX4 4 ∈ lw_tbl := tb_at 29 (by decide +kernel)
theorem fl_X4_9 : Cond.fieldLink RX4 9 (rg_T 4 0).1 (rg_T 4 0).2.1 (rg_T 4 0).2.2.1 ∈ lw_tbl := tb_at 34 (by decide +kernel)
theorem fl_X4_15 : Cond.fieldLink RX4 15 (rg_T 4 1).1 (rg_T 4 1).2.1 (rg_T 4 1).2.2.1 ∈ lw_tbl := tb_at 35 (by decide +kernel)
theorem fl_X4_19 : Cond.fieldLink RX4 19 (rg_T 4 2).1 (rg_T 4 2).2.1 (rg_T 4 2).2.2.1 ∈ lw_tbl := tb_at 36 (by decide +kernel)
theorem fl_X4_22 : Cond.fieldLink RX4 22 (rg_T 4 3).1 (rg_T 4 3).2.1 (rg_T 4 3).2.2.1 ∈ lw_tbl := tb_at 37 (by decide +kernel)
theorem fl_X7_278 : Cond.fieldLink RX7 278 (rg_T 4 3).1 (rg_T 4 3).2.1 (rg_T 4 3).2.2.1 ∈ lw_tbl := tb_at 38 (by decide +kernel)
theorem wa_long : Cond.arrayClass .long ∈ lw_tbl := tb_at 48 (by decide +kernel)
theorem wa_int : Cond.arrayClass .int ∈ lw_tbl := tb_at 49 (by decide +kernel)
theorem wn_X6 : Cond.instantiable RX6 10 ∈ lw_tbl := tb_at 50 (by decide +kernel)
theorem wk_X6_9 : Cond.classLink RX6 9 RX5 ∈ lw_tbl := tb_at 55 (by decide +kernel)
theorem wk_X6_27 : Cond.classLink RX6 27 RX1 ∈ lw_tbl := tb_at 57 (by decide +kernel)
theorem wn_X1 : Cond.instantiable RX1 3 ∈ lw_tbl := tb_at 58 (by decide +kernel)
theorem fl_X1_9 : Cond.fieldLink RX1 9 (rg_T 1 0).1 (rg_T 1 0).2.1 (rg_T 1 0).2.2.1 ∈ lw_tbl := tb_at 63 (by decide +kernel)
theorem fl_X7_275 : Cond.fieldLink RX7 275 (rg_T 1 0).1 (rg_T 1 0).2.1 (rg_T 1 0).2.2.1 ∈ lw_tbl := tb_at 64 (by decide +kernel)
theorem fl_X1_15 : Cond.fieldLink RX1 15 (rg_T 1 1).1 (rg_T 1 1).2.1 (rg_T 1 1).2.2.1 ∈ lw_tbl := tb_at 65 (by decide +kernel)
theorem fl_X1_19 : Cond.fieldLink RX1 19 (rg_T 1 2).1 (rg_T 1 2).2.1 (rg_T 1 2).2.2.1 ∈ lw_tbl := tb_at 66 (by decide +kernel)
theorem fl_X7_272 : Cond.fieldLink RX7 272 (rg_T 1 2).1 (rg_T 1 2).2.1 (rg_T 1 2).2.2.1 ∈ lw_tbl := tb_at 67 (by decide +kernel)
theorem wn_X5 : Cond.instantiable RX5 6 ∈ lw_tbl := tb_at 75 (by decide +kernel)
theorem fl_X5_9 : Cond.fieldLink RX5 9 (rg_T 5 0).1 (rg_T 5 0).2.1 (rg_T 5 0).2.2.1 ∈ lw_tbl := tb_at 80 (by decide +kernel)
theorem fl_X5_15 : Cond.fieldLink RX5 15 (rg_T 5 1).1 (rg_T 5 1).2.1 (rg_T 5 1).2.2.1 ∈ lw_tbl := tb_at 81 (by decide +kernel)
theorem fl_X5_19 : Cond.fieldLink RX5 19 (rg_T 5 2).1 (rg_T 5 2).2.1 (rg_T 5 2).2.2.1 ∈ lw_tbl := tb_at 82 (by decide +kernel)
theorem fl_X5_22 : Cond.fieldLink RX5 22 (rg_T 5 3).1 (rg_T 5 3).2.1 (rg_T 5 3).2.2.1 ∈ lw_tbl := tb_at 83 (by decide +kernel)
theorem fl_X7_159 : Cond.fieldLink RX7 159 (rg_T 5 3).1 (rg_T 5 3).2.1 (rg_T 5 3).2.2.1 ∈ lw_tbl := tb_at 84 (by decide +kernel)
theorem fl_X5_26 : Cond.fieldLink RX5 26 (rg_T 5 4).1 (rg_T 5 4).2.1 (rg_T 5 4).2.2.1 ∈ lw_tbl := tb_at 85 (by decide +kernel)
theorem fl_X7_144 : Cond.fieldLink RX7 144 (rg_T 5 4).1 (rg_T 5 4).2.1 (rg_T 5 4).2.2.1 ∈ lw_tbl := tb_at 86 (by decide +kernel)
theorem fl_X5_29 : Cond.fieldLink RX5 29 (rg_T 5 5).1 (rg_T 5 5).2.1 (rg_T 5 5).2.2.1 ∈ lw_tbl := tb_at 87 (by decide +kernel)
theorem fl_X7_149 : Cond.fieldLink RX7 149 (rg_T 5 5).1 (rg_T 5 5).2.1 (rg_T 5 5).2.2.1 ∈ lw_tbl := tb_at 88 (by decide +kernel)
theorem fl_X6_34 : Cond.fieldLink RX6 34 (rg_T 6 0).1 (rg_T 6 0).2.1 (rg_T 6 0).2.2.1 ∈ lw_tbl := tb_at 102 (by decide +kernel)
theorem fl_X7_55 : Cond.fieldLink RX7 55 (rg_T 6 0).1 (rg_T 6 0).2.1 (rg_T 6 0).2.2.1 ∈ lw_tbl := tb_at 103 (by decide +kernel)
theorem fl_X6_11 : Cond.fieldLink RX6 11 (rg_T 6 1).1 (rg_T 6 1).2.1 (rg_T 6 1).2.2.1 ∈ lw_tbl := tb_at 104 (by decide +kernel)
theorem fl_X7_281 : Cond.fieldLink RX7 281 (rg_T 6 1).1 (rg_T 6 1).2.1 (rg_T 6 1).2.2.1 ∈ lw_tbl := tb_at 105 (by decide +kernel)
theorem fl_X6_17 : Cond.fieldLink RX6 17 (rg_T 6 2).1 (rg_T 6 2).2.1 (rg_T 6 2).2.2.1 ∈ lw_tbl := tb_at 106 (by decide +kernel)
theorem fl_X6_20 : Cond.fieldLink RX6 20 (rg_T 6 3).1 (rg_T 6 3).2.1 (rg_T 6 3).2.2.1 ∈ lw_tbl := tb_at 107 (by decide +kernel)
theorem fl_X6_24 : Cond.fieldLink RX6 24 (rg_T 6 4).1 (rg_T 6 4).2.1 (rg_T 6 4).2.2.1 ∈ lw_tbl := tb_at 108 (by decide +kernel)
theorem fl_X6_30 : Cond.fieldLink RX6 30 (rg_T 6 5).1 (rg_T 6 5).2.1 (rg_T 6 5).2.2.1 ∈ lw_tbl := tb_at 109 (by decide +kernel)
theorem fl_X7_194 : Cond.fieldLink RX7 194 (rg_T 6 5).1 (rg_T 6 5).2.1 (rg_T 6 5).2.2.1 ∈ lw_tbl := tb_at 110 (by decide +kernel)
theorem fl_X6_80 : Cond.fieldLink RX6 80 (rg_T 6 6).1 (rg_T 6 6).2.1 (rg_T 6 6).2.2.1 ∈ lw_tbl := tb_at 111 (by decide +kernel)
theorem fl_X7_191 : Cond.fieldLink RX7 191 (rg_T 6 6).1 (rg_T 6 6).2.1 (rg_T 6 6).2.2.1 ∈ lw_tbl := tb_at 112 (by decide +kernel)
theorem fl_X6_49 : Cond.fieldLink RX6 49 (rg_T 6 7).1 (rg_T 6 7).2.1 (rg_T 6 7).2.2.1 ∈ lw_tbl := tb_at 113 (by decide +kernel)
theorem fl_X7_178 : Cond.fieldLink RX7 178 (rg_T 6 7).1 (rg_T 6 7).2.1 (rg_T 6 7).2.2.1 ∈ lw_tbl := tb_at 114 (by decide +kernel)
theorem fl_X6_60 : Cond.fieldLink RX6 60 (rg_T 6 8).1 (rg_T 6 8).2.1 (rg_T 6 8).2.2.1 ∈ lw_tbl := tb_at 115 (by decide +kernel)
theorem fl_X7_181 : Cond.fieldLink RX7 181 (rg_T 6 8).1 (rg_T 6 8).2.1 (rg_T 6 8).2.2.1 ∈ lw_tbl := tb_at 116 (by decide +kernel)
theorem fl_X6_73 : Cond.fieldLink RX6 73 (rg_T 6 9).1 (rg_T 6 9).2.1 (rg_T 6 9).2.2.1 ∈ lw_tbl := tb_at 117 (by decide +kernel)
theorem fl_X7_185 : Cond.fieldLink RX7 185 (rg_T 6 9).1 (rg_T 6 9).2.1 (rg_T 6 9).2.2.1 ∈ lw_tbl := tb_at 118 (by decide +kernel)
theorem fl_X7_11 : Cond.fieldLink RX7 11 (rg_T 7 0).1 (rg_T 7 0).2.1 (rg_T 7 0).2.2.1 ∈ lw_tbl := tb_at 140 (by decide +kernel)
theorem fl_X7_17 : Cond.fieldLink RX7 17 (rg_T 7 1).1 (rg_T 7 1).2.1 (rg_T 7 1).2.2.1 ∈ lw_tbl := tb_at 141 (by decide +kernel)
theorem fl_X7_23 : Cond.fieldLink RX7 23 (rg_T 7 2).1 (rg_T 7 2).2.1 (rg_T 7 2).2.2.1 ∈ lw_tbl := tb_at 142 (by decide +kernel)
theorem fl_X7_29 : Cond.fieldLink RX7 29 (rg_T 7 3).1 (rg_T 7 3).2.1 (rg_T 7 3).2.2.1 ∈ lw_tbl := tb_at 143 (by decide +kernel)
theorem fl_X7_36 : Cond.fieldLink RX7 36 (rg_T 7 4).1 (rg_T 7 4).2.1 (rg_T 7 4).2.2.1 ∈ lw_tbl := tb_at 144 (by decide +kernel)
theorem fl_X7_65 : Cond.fieldLink RX7 65 (rg_T 7 5).1 (rg_T 7 5).2.1 (rg_T 7 5).2.2.1 ∈ lw_tbl := tb_at 145 (by decide +kernel)
theorem fl_X7_59 : Cond.fieldLink RX7 59 (rg_T 7 6).1 (rg_T 7 6).2.1 (rg_T 7 6).2.2.1 ∈ lw_tbl := tb_at 146 (by decide +kernel)
theorem fl_X7_102 : Cond.fieldLink RX7 102 (rg_T 7 7).1 (rg_T 7 7).2.1 (rg_T 7 7).2.2.1 ∈ lw_tbl := tb_at 147 (by decide +kernel)
theorem fl_X7_99 : Cond.fieldLink RX7 99 (rg_T 7 8).1 (rg_T 7 8).2.1 (rg_T 7 8).2.2.1 ∈ lw_tbl := tb_at 148 (by decide +kernel)
theorem fl_X7_204 : Cond.fieldLink RX7 204 (rg_T 7 9).1 (rg_T 7 9).2.1 (rg_T 7 9).2.2.1 ∈ lw_tbl := tb_at 149 (by decide +kernel)
theorem wn_X0 : Cond.instantiable RX0 6 ∈ lw_tbl := tb_at 183 (by decide +kernel)
theorem wk_X0_9 : Cond.classLink RX0 9 "[[J" ∈ lw_tbl := tb_at 188 (by decide +kernel)
theorem fl_X0_23 : Cond.fieldLink RX0 23 (rg_T 0 0).1 (rg_T 0 0).2.1 (rg_T 0 0).2.2.1 ∈ lw_tbl := tb_at 190 (by decide +kernel)
theorem fl_X7_127 : Cond.fieldLink RX7 127 (rg_T 0 0).1 (rg_T 0 0).2.1 (rg_T 0 0).2.2.1 ∈ lw_tbl := tb_at 191 (by decide +kernel)
theorem fl_X0_27 : Cond.fieldLink RX0 27 (rg_T 0 1).1 (rg_T 0 1).2.1 (rg_T 0 1).2.2.1 ∈ lw_tbl := tb_at 192 (by decide +kernel)
theorem fl_X7_51 : Cond.fieldLink RX7 51 (rg_T 0 1).1 (rg_T 0 1).2.1 (rg_T 0 1).2.2.1 ∈ lw_tbl := tb_at 193 (by decide +kernel)
theorem fl_X0_31 : Cond.fieldLink RX0 31 (rg_T 0 2).1 (rg_T 0 2).2.1 (rg_T 0 2).2.2.1 ∈ lw_tbl := tb_at 194 (by decide +kernel)
theorem fl_X7_297 : Cond.fieldLink RX7 297 (rg_T 0 2).1 (rg_T 0 2).2.1 (rg_T 0 2).2.2.1 ∈ lw_tbl := tb_at 195 (by decide +kernel)
theorem fl_X0_11 : Cond.fieldLink RX0 11 (rg_T 0 3).1 (rg_T 0 3).2.1 (rg_T 0 3).2.2.1 ∈ lw_tbl := tb_at 196 (by decide +kernel)
theorem fl_X7_226 : Cond.fieldLink RX7 226 (rg_T 0 3).1 (rg_T 0 3).2.1 (rg_T 0 3).2.2.1 ∈ lw_tbl := tb_at 197 (by decide +kernel)
theorem fl_X0_16 : Cond.fieldLink RX0 16 (rg_T 0 4).1 (rg_T 0 4).2.1 (rg_T 0 4).2.2.1 ∈ lw_tbl := tb_at 198 (by decide +kernel)
theorem fl_X7_230 : Cond.fieldLink RX7 230 (rg_T 0 4).1 (rg_T 0 4).2.1 (rg_T 0 4).2.2.1 ∈ lw_tbl := tb_at 199 (by decide +kernel)
theorem fl_X0_20 : Cond.fieldLink RX0 20 (rg_T 0 5).1 (rg_T 0 5).2.1 (rg_T 0 5).2.2.1 ∈ lw_tbl := tb_at 200 (by decide +kernel)
theorem fl_X7_95 : Cond.fieldLink RX7 95 (rg_T 0 5).1 (rg_T 0 5).2.1 (rg_T 0 5).2.2.1 ∈ lw_tbl := tb_at 201 (by decide +kernel)
theorem wc_X7_68 : Cond.constant RX7 68 (99999) ∈ lw_tbl := tb_at 219 (by decide +kernel)
theorem wc_X7_154 : Cond.constant RX7 154 (1000000) ∈ lw_tbl := tb_at 254 (by decide +kernel)
theorem wc_X7_94 : Cond.constant RX7 94 (1000000000) ∈ lw_tbl := tb_at 302 (by decide +kernel)
theorem wc_X0_35 : Cond.constantLong RX0 35 (1000000) ∈ lw_tbl := tb_at 311 (by decide +kernel)
theorem wn_X2 : Cond.instantiable RX2 5 ∈ lw_tbl := tb_at 316 (by decide +kernel)
theorem fl_X2_13 : Cond.fieldLink RX2 13 (rg_T 2 0).1 (rg_T 2 0).2.1 (rg_T 2 0).2.2.1 ∈ lw_tbl := tb_at 321 (by decide +kernel)
theorem fl_X7_123 : Cond.fieldLink RX7 123 (rg_T 2 0).1 (rg_T 2 0).2.1 (rg_T 2 0).2.2.1 ∈ lw_tbl := tb_at 322 (by decide +kernel)
theorem fl_X2_17 : Cond.fieldLink RX2 17 (rg_T 2 1).1 (rg_T 2 1).2.1 (rg_T 2 1).2.2.1 ∈ lw_tbl := tb_at 323 (by decide +kernel)
theorem fl_X7_128 : Cond.fieldLink RX7 128 (rg_T 2 1).1 (rg_T 2 1).2.1 (rg_T 2 1).2.2.1 ∈ lw_tbl := tb_at 324 (by decide +kernel)
theorem fl_X2_21 : Cond.fieldLink RX2 21 (rg_T 2 2).1 (rg_T 2 2).2.1 (rg_T 2 2).2.2.1 ∈ lw_tbl := tb_at 325 (by decide +kernel)
theorem fl_X7_120 : Cond.fieldLink RX7 120 (rg_T 2 2).1 (rg_T 2 2).2.1 (rg_T 2 2).2.2.1 ∈ lw_tbl := tb_at 326 (by decide +kernel)
theorem fl_X2_24 : Cond.fieldLink RX2 24 (rg_T 2 3).1 (rg_T 2 3).2.1 (rg_T 2 3).2.2.1 ∈ lw_tbl := tb_at 327 (by decide +kernel)
theorem fl_X7_236 : Cond.fieldLink RX7 236 (rg_T 2 3).1 (rg_T 2 3).2.1 (rg_T 2 3).2.2.1 ∈ lw_tbl := tb_at 328 (by decide +kernel)
theorem fl_X2_7 : Cond.fieldLink RX2 7 (rg_T 2 4).1 (rg_T 2 4).2.1 (rg_T 2 4).2.2.1 ∈ lw_tbl := tb_at 329 (by decide +kernel)
theorem fl_X7_239 : Cond.fieldLink RX7 239 (rg_T 2 4).1 (rg_T 2 4).2.1 (rg_T 2 4).2.2.1 ∈ lw_tbl := tb_at 330 (by decide +kernel)
theorem wc_X7_143 : Cond.constant RX7 143 (100000) ∈ lw_tbl := tb_at 359 (by decide +kernel)
theorem wc_X7_152 : Cond.constantLong RX7 152 (10000000000) ∈ lw_tbl := tb_at 364 (by decide +kernel)
theorem wc_X7_167 : Cond.constantLong RX7 167 (-2) ∈ lw_tbl := tb_at 387 (by decide +kernel)
theorem wc_X7_176 : Cond.constantLong RX7 176 (1000000000000) ∈ lw_tbl := tb_at 396 (by decide +kernel)
theorem wn_X3 : Cond.instantiable RX3 8 ∈ lw_tbl := tb_at 416 (by decide +kernel)
theorem fl_X3_25 : Cond.fieldLink RX3 25 (rg_T 3 0).1 (rg_T 3 0).2.1 (rg_T 3 0).2.2.1 ∈ lw_tbl := tb_at 421 (by decide +kernel)
theorem fl_X7_263 : Cond.fieldLink RX7 263 (rg_T 3 0).1 (rg_T 3 0).2.1 (rg_T 3 0).2.2.1 ∈ lw_tbl := tb_at 422 (by decide +kernel)
theorem fl_X3_29 : Cond.fieldLink RX3 29 (rg_T 3 1).1 (rg_T 3 1).2.1 (rg_T 3 1).2.2.1 ∈ lw_tbl := tb_at 423 (by decide +kernel)
theorem fl_X7_266 : Cond.fieldLink RX7 266 (rg_T 3 1).1 (rg_T 3 1).2.1 (rg_T 3 1).2.2.1 ∈ lw_tbl := tb_at 424 (by decide +kernel)
theorem fl_X3_9 : Cond.fieldLink RX3 9 (rg_T 3 2).1 (rg_T 3 2).2.1 (rg_T 3 2).2.2.1 ∈ lw_tbl := tb_at 425 (by decide +kernel)
theorem fl_X7_250 : Cond.fieldLink RX7 250 (rg_T 3 2).1 (rg_T 3 2).2.1 (rg_T 3 2).2.2.1 ∈ lw_tbl := tb_at 426 (by decide +kernel)
theorem fl_X3_15 : Cond.fieldLink RX3 15 (rg_T 3 3).1 (rg_T 3 3).2.1 (rg_T 3 3).2.2.1 ∈ lw_tbl := tb_at 427 (by decide +kernel)
theorem fl_X7_253 : Cond.fieldLink RX7 253 (rg_T 3 3).1 (rg_T 3 3).2.1 (rg_T 3 3).2.2.1 ∈ lw_tbl := tb_at 428 (by decide +kernel)
theorem fl_X3_18 : Cond.fieldLink RX3 18 (rg_T 3 4).1 (rg_T 3 4).2.1 (rg_T 3 4).2.2.1 ∈ lw_tbl := tb_at 429 (by decide +kernel)
theorem fl_X7_256 : Cond.fieldLink RX7 256 (rg_T 3 4).1 (rg_T 3 4).2.1 (rg_T 3 4).2.2.1 ∈ lw_tbl := tb_at 430 (by decide +kernel)
theorem fl_X3_22 : Cond.fieldLink RX3 22 (rg_T 3 5).1 (rg_T 3 5).2.1 (rg_T 3 5).2.2.1 ∈ lw_tbl := tb_at 431 (by decide +kernel)
theorem fl_X7_260 : Cond.fieldLink RX7 260 (rg_T 3 5).1 (rg_T 3 5).2.1 (rg_T 3 5).2.2.1 ∈ lw_tbl := tb_at 432 (by decide +kernel)
theorem fl_X3_32 : Cond.fieldLink RX3 32 (rg_T 3 6).1 (rg_T 3 6).2.1 (rg_T 3 6).2.2.1 ∈ lw_tbl := tb_at 433 (by decide +kernel)
theorem fl_X7_247 : Cond.fieldLink RX7 247 (rg_T 3 6).1 (rg_T 3 6).2.1 (rg_T 3 6).2.2.1 ∈ lw_tbl := tb_at 434 (by decide +kernel)
theorem fl_X3_35 : Cond.fieldLink RX3 35 (rg_T 3 7).1 (rg_T 3 7).2.1 (rg_T 3 7).2.2.1 ∈ lw_tbl := tb_at 435 (by decide +kernel)
theorem fl_X1_27 : Cond.fieldLink RX1 27 (rg_T 3 7).1 (rg_T 3 7).2.1 (rg_T 3 7).2.2.1 ∈ lw_tbl := tb_at 436 (by decide +kernel)
theorem fl_X6_64 : Cond.fieldLink RX6 64 (rg_T 3 7).1 (rg_T 3 7).2.1 (rg_T 3 7).2.2.1 ∈ lw_tbl := tb_at 437 (by decide +kernel)
theorem fl_X7_269 : Cond.fieldLink RX7 269 (rg_T 3 7).1 (rg_T 3 7).2.1 (rg_T 3 7).2.2.1 ∈ lw_tbl := tb_at 438 (by decide +kernel)
theorem wc_X3_43 : Cond.constantLong RX3 43 (10000) ∈ lw_tbl := tb_at 477 (by decide +kernel)
theorem wc_X3_54 : Cond.constantLong RX3 54 (2) ∈ lw_tbl := tb_at 484 (by decide +kernel)
theorem wn_X8 : Cond.instantiable RX8 32 ∈ lw_tbl := tb_at 563 (by decide +kernel)
theorem wc_X8_27 : Cond.constant RX8 27 (99999) ∈ lw_tbl := tb_at 569 (by decide +kernel)
theorem wc_X8_31 : Cond.constant RX8 31 (1000000000) ∈ lw_tbl := tb_at 577 (by decide +kernel)
theorem wc_X8_63 : Cond.constant RX8 63 (1000000) ∈ lw_tbl := tb_at 585 (by decide +kernel)
theorem wc_X8_183 : Cond.constantLong RX8 183 (2) ∈ lw_tbl := tb_at 614 (by decide +kernel)
theorem wc_X8_75 : Cond.constantLong RX8 75 (-2) ∈ lw_tbl := tb_at 627 (by decide +kernel)
theorem wc_X8_107 : Cond.constantLong RX8 107 (1000000) ∈ lw_tbl := tb_at 648 (by decide +kernel)
theorem wk_L_10 : Cond.classLink RL 10 RX8 ∈ lw_tbl := tb_at 670 (by decide +kernel)
theorem fl_X8_24 : Cond.fieldLink RX8 24 (rg_T 8 0).1 (rg_T 8 0).2.1 (rg_T 8 0).2.2.1 ∈ lw_tbl := tb_at 675 (by decide +kernel)
theorem fl_X8_3 : Cond.fieldLink RX8 3 (rg_T 8 1).1 (rg_T 8 1).2.1 (rg_T 8 1).2.2.1 ∈ lw_tbl := tb_at 676 (by decide +kernel)
theorem fl_X8_14 : Cond.fieldLink RX8 14 (rg_T 8 2).1 (rg_T 8 2).2.1 (rg_T 8 2).2.2.1 ∈ lw_tbl := tb_at 677 (by decide +kernel)
theorem fl_X8_18 : Cond.fieldLink RX8 18 (rg_T 8 3).1 (rg_T 8 3).2.1 (rg_T 8 3).2.2.1 ∈ lw_tbl := tb_at 678 (by decide +kernel)
theorem fl_X8_21 : Cond.fieldLink RX8 21 (rg_T 8 4).1 (rg_T 8 4).2.1 (rg_T 8 4).2.2.1 ∈ lw_tbl := tb_at 679 (by decide +kernel)
theorem fl_X8_56 : Cond.fieldLink RX8 56 (rg_T 8 5).1 (rg_T 8 5).2.1 (rg_T 8 5).2.2.1 ∈ lw_tbl := tb_at 680 (by decide +kernel)
theorem fl_X8_32 : Cond.fieldLink RX8 32 (rg_T 8 6).1 (rg_T 8 6).2.1 (rg_T 8 6).2.2.1 ∈ lw_tbl := tb_at 681 (by decide +kernel)
theorem fl_X8_38 : Cond.fieldLink RX8 38 (rg_T 8 7).1 (rg_T 8 7).2.1 (rg_T 8 7).2.2.1 ∈ lw_tbl := tb_at 682 (by decide +kernel)
theorem fl_X8_42 : Cond.fieldLink RX8 42 (rg_T 8 8).1 (rg_T 8 8).2.1 (rg_T 8 8).2.2.1 ∈ lw_tbl := tb_at 683 (by decide +kernel)
theorem fl_X8_35 : Cond.fieldLink RX8 35 (rg_T 8 9).1 (rg_T 8 9).2.1 (rg_T 8 9).2.2.1 ∈ lw_tbl := tb_at 684 (by decide +kernel)
theorem fl_X8_81 : Cond.fieldLink RX8 81 (rg_T 8 10).1 (rg_T 8 10).2.1 (rg_T 8 10).2.2.1 ∈ lw_tbl := tb_at 685 (by decide +kernel)
theorem fl_X8_101 : Cond.fieldLink RX8 101 (rg_T 8 11).1 (rg_T 8 11).2.1 (rg_T 8 11).2.2.1 ∈ lw_tbl := tb_at 686 (by decide +kernel)
theorem fl_X8_98 : Cond.fieldLink RX8 98 (rg_T 8 12).1 (rg_T 8 12).2.1 (rg_T 8 12).2.2.1 ∈ lw_tbl := tb_at 687 (by decide +kernel)
theorem fl_X8_104 : Cond.fieldLink RX8 104 (rg_T 8 13).1 (rg_T 8 13).2.1 (rg_T 8 13).2.2.1 ∈ lw_tbl := tb_at 688 (by decide +kernel)
theorem fl_X8_88 : Cond.fieldLink RX8 88 (rg_T 8 14).1 (rg_T 8 14).2.1 (rg_T 8 14).2.2.1 ∈ lw_tbl := tb_at 689 (by decide +kernel)
theorem fl_X8_84 : Cond.fieldLink RX8 84 (rg_T 8 15).1 (rg_T 8 15).2.1 (rg_T 8 15).2.2.1 ∈ lw_tbl := tb_at 690 (by decide +kernel)
theorem fl_X8_131 : Cond.fieldLink RX8 131 (rg_T 8 16).1 (rg_T 8 16).2.1 (rg_T 8 16).2.2.1 ∈ lw_tbl := tb_at 691 (by decide +kernel)
theorem fl_X8_134 : Cond.fieldLink RX8 134 (rg_T 8 17).1 (rg_T 8 17).2.1 (rg_T 8 17).2.2.1 ∈ lw_tbl := tb_at 692 (by decide +kernel)
theorem fl_X8_137 : Cond.fieldLink RX8 137 (rg_T 8 18).1 (rg_T 8 18).2.1 (rg_T 8 18).2.2.1 ∈ lw_tbl := tb_at 693 (by decide +kernel)
theorem fl_X8_140 : Cond.fieldLink RX8 140 (rg_T 8 19).1 (rg_T 8 19).2.1 (rg_T 8 19).2.2.1 ∈ lw_tbl := tb_at 694 (by decide +kernel)
theorem fl_X8_143 : Cond.fieldLink RX8 143 (rg_T 8 20).1 (rg_T 8 20).2.1 (rg_T 8 20).2.2.1 ∈ lw_tbl := tb_at 695 (by decide +kernel)
theorem fl_X8_146 : Cond.fieldLink RX8 146 (rg_T 8 21).1 (rg_T 8 21).2.1 (rg_T 8 21).2.2.1 ∈ lw_tbl := tb_at 696 (by decide +kernel)
theorem fl_X8_149 : Cond.fieldLink RX8 149 (rg_T 8 22).1 (rg_T 8 22).2.1 (rg_T 8 22).2.2.1 ∈ lw_tbl := tb_at 697 (by decide +kernel)
theorem fl_X8_49 : Cond.fieldLink RX8 49 (rg_T 8 23).1 (rg_T 8 23).2.1 (rg_T 8 23).2.2.1 ∈ lw_tbl := tb_at 698 (by decide +kernel)
theorem fl_X8_152 : Cond.fieldLink RX8 152 (rg_T 8 24).1 (rg_T 8 24).2.1 (rg_T 8 24).2.2.1 ∈ lw_tbl := tb_at 699 (by decide +kernel)
theorem fl_X8_155 : Cond.fieldLink RX8 155 (rg_T 8 25).1 (rg_T 8 25).2.1 (rg_T 8 25).2.2.1 ∈ lw_tbl := tb_at 700 (by decide +kernel)
theorem fl_X8_158 : Cond.fieldLink RX8 158 (rg_T 8 26).1 (rg_T 8 26).2.1 (rg_T 8 26).2.2.1 ∈ lw_tbl := tb_at 701 (by decide +kernel)
theorem fl_X8_206 : Cond.fieldLink RX8 206 (rg_T 8 27).1 (rg_T 8 27).2.1 (rg_T 8 27).2.2.1 ∈ lw_tbl := tb_at 702 (by decide +kernel)
theorem fl_X8_161 : Cond.fieldLink RX8 161 (rg_T 8 28).1 (rg_T 8 28).2.1 (rg_T 8 28).2.2.1 ∈ lw_tbl := tb_at 703 (by decide +kernel)
theorem fl_X8_164 : Cond.fieldLink RX8 164 (rg_T 8 29).1 (rg_T 8 29).2.1 (rg_T 8 29).2.2.1 ∈ lw_tbl := tb_at 704 (by decide +kernel)
theorem fl_X8_167 : Cond.fieldLink RX8 167 (rg_T 8 30).1 (rg_T 8 30).2.1 (rg_T 8 30).2.2.1 ∈ lw_tbl := tb_at 705 (by decide +kernel)
theorem fl_X8_170 : Cond.fieldLink RX8 170 (rg_T 8 31).1 (rg_T 8 31).2.1 (rg_T 8 31).2.2.1 ∈ lw_tbl := tb_at 706 (by decide +kernel)
theorem wa_boolean : Cond.arrayClass .boolean ∈ lw_tbl := tb_at 772 (by decide +kernel)
theorem wc_X8_173 : Cond.constant RX8 173 (100000) ∈ lw_tbl := tb_at 777 (by decide +kernel)
theorem wc_X8_177 : Cond.constantLong RX8 177 (10000000000) ∈ lw_tbl := tb_at 785 (by decide +kernel)
theorem wc_X8_185 : Cond.constantLong RX8 185 (1000000000000) ∈ lw_tbl := tb_at 798 (by decide +kernel)
theorem wc_X8_196 : Cond.constantLong RX8 196 (10000) ∈ lw_tbl := tb_at 825 (by decide +kernel)
theorem wc_X8_204 : Cond.constantLong RX8 204 (5000) ∈ lw_tbl := tb_at 828 (by decide +kernel)
theorem wc_L_23 : Cond.constantLong RL 23 (4294967295) ∈ lw_tbl := tb_at 849 (by decide +kernel)
set_option maxRecDepth 20000 in
theorem cw_yX7_init : Cond.code yX7_init cX7_init 2 none ∈ lw_tbl := tb_at 16 (by first | rfl | decide +kernel)
set_option maxRecDepth 20000 in
theorem cw_objectInit : Cond.code objectInit ⟨#[0xb1]⟩ 1 none ∈ lw_tbl := tb_at 19 (by first | rfl | decide +kernel)
set_option maxRecDepth 20000 in
theorem cw_yX4_init : Cond.code yX4_init cX4_init 1 none ∈ lw_tbl := tb_at 32 (by first | rfl | decide +kernel)
set_option maxRecDepth 20000 in
theorem cw_yX6_init : Cond.code yX6_init cX6_init 3 none ∈ lw_tbl := tb_at 53 (by first | rfl | decide +kernel)
set_option maxRecDepth 20000 in
theorem cw_yX1_init : Cond.code yX1_init cX1_init 1 none ∈ lw_tbl := tb_at 61 (by first | rfl | decide +kernel)
set_option maxRecDepth 20000 in
theorem cw_yX5_init : Cond.code yX5_init cX5_init 1 none ∈ lw_tbl := tb_at 78 (by first | rfl | decide +kernel)
set_option maxRecDepth 20000 in
theorem cw_yX7_account : Cond.code yX7_account cX7_account 5 ((some .int)) ∈ lw_tbl := tb_at 174 (by first | rfl | decide +kernel)
set_option maxRecDepth 20000 in
theorem cw_yX7_tenantAt : Cond.code yX7_tenantAt cX7_tenantAt 2 ((some (.object "QuotaMeter$Tenant"))) ∈ lw_tbl := tb_at 178 (by first | rfl | decide +kernel)
set_option maxRecDepth 20000 in
theorem cw_yX7_accountAt : Cond.code yX7_accountAt cX7_accountAt 2 ((some (.object "QuotaMeter$Account"))) ∈ lw_tbl := tb_at 182 (by first | rfl | decide +kernel)
set_option maxRecDepth 20000 in
theorem cw_yX0_init : Cond.code yX0_init cX0_init 5 none ∈ lw_tbl := tb_at 186 (by first | rfl | decide +kernel)
set_option maxRecDepth 20000 in
theorem cw_yX7_tick : Cond.code yX7_tick cX7_tick 2 ((some .int)) ∈ lw_tbl := tb_at 218 (by first | rfl | decide +kernel)
set_option maxRecDepth 20000 in
theorem cw_yX4_forgetOld : Cond.code yX4_forgetOld cX4_forgetOld 4 none ∈ lw_tbl := tb_at 223 (by first | rfl | decide +kernel)
set_option maxRecDepth 20000 in
theorem cw_yX7_endOldHolds : Cond.code yX7_endOldHolds cX7_endOldHolds 3 none ∈ lw_tbl := tb_at 227 (by first | rfl | decide +kernel)
set_option maxRecDepth 20000 in
theorem cw_yX7_openHoldAt : Cond.code yX7_openHoldAt cX7_openHoldAt 3 ((some (.object "QuotaMeter$Hold"))) ∈ lw_tbl := tb_at 231 (by first | rfl | decide +kernel)
set_option maxRecDepth 20000 in
theorem cw_yX7_holdAt : Cond.code yX7_holdAt cX7_holdAt 2 ((some (.object "QuotaMeter$Hold"))) ∈ lw_tbl := tb_at 235 (by first | rfl | decide +kernel)
set_option maxRecDepth 20000 in
theorem cw_yX7_endHold : Cond.code yX7_endHold cX7_endHold 2 none ∈ lw_tbl := tb_at 239 (by first | rfl | decide +kernel)
set_option maxRecDepth 20000 in
theorem cw_yX0_addHeld : Cond.code yX0_addHeld cX0_addHeld 4 none ∈ lw_tbl := tb_at 243 (by first | rfl | decide +kernel)
set_option maxRecDepth 20000 in
theorem cw_yX7_event : Cond.code yX7_event cX7_event 8 ((some .int)) ∈ lw_tbl := tb_at 247 (by first | rfl | decide +kernel)
set_option maxRecDepth 20000 in
theorem cw_yX7_isResource : Cond.code yX7_isResource cX7_isResource 1 ((some .boolean)) ∈ lw_tbl := tb_at 250 (by first | rfl | decide +kernel)
set_option maxRecDepth 20000 in
theorem cw_yX7_isUnits : Cond.code yX7_isUnits cX7_isUnits 1 ((some .boolean)) ∈ lw_tbl := tb_at 253 (by first | rfl | decide +kernel)
set_option maxRecDepth 20000 in
theorem cw_yX4_knows : Cond.code yX4_knows cX4_knows 5 ((some .boolean)) ∈ lw_tbl := tb_at 258 (by first | rfl | decide +kernel)
set_option maxRecDepth 20000 in
theorem cw_yX4_learn : Cond.code yX4_learn cX4_learn 5 ((some .boolean)) ∈ lw_tbl := tb_at 262 (by first | rfl | decide +kernel)
set_option maxRecDepth 20000 in
theorem cw_yX7_countUnits : Cond.code yX7_countUnits cX7_countUnits 6 ((some .int)) ∈ lw_tbl := tb_at 266 (by first | rfl | decide +kernel)
set_option maxRecDepth 20000 in
theorem cw_yX7_quantityOf : Cond.code yX7_quantityOf cX7_quantityOf 8 ((some .long)) ∈ lw_tbl := tb_at 270 (by first | rfl | decide +kernel)
set_option maxRecDepth 20000 in
theorem cw_yX6_adjust : Cond.code yX6_adjust cX6_adjust 6 none ∈ lw_tbl := tb_at 274 (by first | rfl | decide +kernel)
set_option maxRecDepth 20000 in
theorem cw_yX5_costOf : Cond.code yX5_costOf cX5_costOf 3 ((some .long)) ∈ lw_tbl := tb_at 278 (by first | rfl | decide +kernel)
set_option maxRecDepth 20000 in
theorem cw_yX5_costAtLastTier : Cond.code yX5_costAtLastTier cX5_costAtLastTier 4 ((some .long)) ∈ lw_tbl := tb_at 282 (by first | rfl | decide +kernel)
set_option maxRecDepth 20000 in
theorem cw_yX5_costByTiers : Cond.code yX5_costByTiers cX5_costByTiers 10 ((some .long)) ∈ lw_tbl := tb_at 286 (by first | rfl | decide +kernel)
set_option maxRecDepth 20000 in
theorem cw_yJ9_min_f86c9 : Cond.code yJ9_min_f86c9 cJ9_min_f86c9 4 ((some .long)) ∈ lw_tbl := tb_at 289 (by first | rfl | decide +kernel)
set_option maxRecDepth 20000 in
theorem cw_yX5_pricedParts : Cond.code yX5_pricedParts cX5_pricedParts 3 ((some .long)) ∈ lw_tbl := tb_at 293 (by first | rfl | decide +kernel)
set_option maxRecDepth 20000 in
theorem cw_yX0_addUsed : Cond.code yX0_addUsed cX0_addUsed 5 none ∈ lw_tbl := tb_at 297 (by first | rfl | decide +kernel)
set_option maxRecDepth 20000 in
theorem cw_yX7_limit : Cond.code yX7_limit cX7_limit 5 ((some .int)) ∈ lw_tbl := tb_at 301 (by first | rfl | decide +kernel)
set_option maxRecDepth 20000 in
theorem cw_yX7_request : Cond.code yX7_request cX7_request 5 ((some .int)) ∈ lw_tbl := tb_at 306 (by first | rfl | decide +kernel)
set_option maxRecDepth 20000 in
theorem cw_yX0_freeUnits : Cond.code yX0_freeUnits cX0_freeUnits 6 ((some .int)) ∈ lw_tbl := tb_at 310 (by first | rfl | decide +kernel)
set_option maxRecDepth 20000 in
theorem cw_yJ9_max_f86c9 : Cond.code yJ9_max_f86c9 cJ9_max_f86c9 4 ((some .long)) ∈ lw_tbl := tb_at 315 (by first | rfl | decide +kernel)
set_option maxRecDepth 20000 in
theorem cw_yX2_init : Cond.code yX2_init cX2_init 5 none ∈ lw_tbl := tb_at 319 (by first | rfl | decide +kernel)
set_option maxRecDepth 20000 in
theorem cw_yX7_settle : Cond.code yX7_settle cX7_settle 7 ((some .int)) ∈ lw_tbl := tb_at 345 (by first | rfl | decide +kernel)
set_option maxRecDepth 20000 in
theorem cw_yX7_drop : Cond.code yX7_drop cX7_drop 3 ((some .int)) ∈ lw_tbl := tb_at 350 (by first | rfl | decide +kernel)
set_option maxRecDepth 20000 in
theorem cw_yX7_mode : Cond.code yX7_mode cX7_mode 6 ((some .int)) ∈ lw_tbl := tb_at 354 (by first | rfl | decide +kernel)
set_option maxRecDepth 20000 in
theorem cw_yX7_pricesAt : Cond.code yX7_pricesAt cX7_pricesAt 4 ((some (.object "QuotaMeter$Prices"))) ∈ lw_tbl := tb_at 358 (by first | rfl | decide +kernel)
set_option maxRecDepth 20000 in
theorem cw_yX7_tier : Cond.code yX7_tier cX7_tier 9 ((some .int)) ∈ lw_tbl := tb_at 363 (by first | rfl | decide +kernel)
set_option maxRecDepth 20000 in
theorem cw_yX5_putTier : Cond.code yX5_putTier cX5_putTier 7 ((some .boolean)) ∈ lw_tbl := tb_at 368 (by first | rfl | decide +kernel)
set_option maxRecDepth 20000 in
theorem cw_yJ9_max_7cf53 : Cond.code yJ9_max_7cf53 cJ9_max_7cf53 2 ((some .int)) ∈ lw_tbl := tb_at 371 (by first | rfl | decide +kernel)
set_option maxRecDepth 20000 in
theorem cw_yX5_wouldRise : Cond.code yX5_wouldRise cX5_wouldRise 10 ((some .boolean)) ∈ lw_tbl := tb_at 375 (by first | rfl | decide +kernel)
set_option maxRecDepth 20000 in
theorem cw_yX7_tiers : Cond.code yX7_tiers cX7_tiers 5 ((some .int)) ∈ lw_tbl := tb_at 379 (by first | rfl | decide +kernel)
set_option maxRecDepth 20000 in
theorem cw_yJ9_min_7cf53 : Cond.code yJ9_min_7cf53 cJ9_min_7cf53 2 ((some .int)) ∈ lw_tbl := tb_at 382 (by first | rfl | decide +kernel)
set_option maxRecDepth 20000 in
theorem cw_yX7_cost : Cond.code yX7_cost cX7_cost 6 ((some .long)) ∈ lw_tbl := tb_at 386 (by first | rfl | decide +kernel)
set_option maxRecDepth 20000 in
theorem cw_yX7_terms : Cond.code yX7_terms cX7_terms 7 ((some .int)) ∈ lw_tbl := tb_at 392 (by first | rfl | decide +kernel)
set_option maxRecDepth 20000 in
theorem cw_yX7_isRate : Cond.code yX7_isRate cX7_isRate 1 ((some .boolean)) ∈ lw_tbl := tb_at 395 (by first | rfl | decide +kernel)
set_option maxRecDepth 20000 in
theorem cw_yX7_credit : Cond.code yX7_credit cX7_credit 6 ((some .int)) ∈ lw_tbl := tb_at 400 (by first | rfl | decide +kernel)
set_option maxRecDepth 20000 in
theorem cw_yX7_isPeriod : Cond.code yX7_isPeriod cX7_isPeriod 1 ((some .boolean)) ∈ lw_tbl := tb_at 403 (by first | rfl | decide +kernel)
set_option maxRecDepth 20000 in
theorem cw_yX1_give : Cond.code yX1_give cX1_give 4 ((some .int)) ∈ lw_tbl := tb_at 407 (by first | rfl | decide +kernel)
set_option maxRecDepth 20000 in
theorem cw_yX1_countLasting : Cond.code yX1_countLasting cX1_countLasting 3 ((some .int)) ∈ lw_tbl := tb_at 411 (by first | rfl | decide +kernel)
set_option maxRecDepth 20000 in
theorem cw_yX7_close : Cond.code yX7_close cX7_close 4 ((some .int)) ∈ lw_tbl := tb_at 415 (by first | rfl | decide +kernel)
set_option maxRecDepth 20000 in
theorem cw_yX3_init : Cond.code yX3_init cX3_init 3 none ∈ lw_tbl := tb_at 419 (by first | rfl | decide +kernel)
set_option maxRecDepth 20000 in
theorem cw_yX7_billUsage : Cond.code yX7_billUsage cX7_billUsage 6 none ∈ lw_tbl := tb_at 459 (by first | rfl | decide +kernel)
set_option maxRecDepth 20000 in
theorem cw_yX3_add : Cond.code yX3_add cX3_add 7 none ∈ lw_tbl := tb_at 463 (by first | rfl | decide +kernel)
set_option maxRecDepth 20000 in
theorem cw_yX6_billAdjustments : Cond.code yX6_billAdjustments cX6_billAdjustments 3 none ∈ lw_tbl := tb_at 467 (by first | rfl | decide +kernel)
set_option maxRecDepth 20000 in
theorem cw_yX6_billTerms : Cond.code yX6_billTerms cX6_billTerms 2 none ∈ lw_tbl := tb_at 472 (by first | rfl | decide +kernel)
set_option maxRecDepth 20000 in
theorem cw_yX3_partOfSum : Cond.code yX3_partOfSum cX3_partOfSum 9 ((some .long)) ∈ lw_tbl := tb_at 476 (by first | rfl | decide +kernel)
set_option maxRecDepth 20000 in
theorem cw_yJ9_floorMod_f86c9 : Cond.code yJ9_floorMod_f86c9 cJ9_floorMod_f86c9 6 ((some .long)) ∈ lw_tbl := tb_at 480 (by first | rfl | decide +kernel)
set_option maxRecDepth 20000 in
theorem cw_yJ9_floorDiv_f86c9 : Cond.code yJ9_floorDiv_f86c9 cJ9_floorDiv_f86c9 6 ((some .long)) ∈ lw_tbl := tb_at 483 (by first | rfl | decide +kernel)
set_option maxRecDepth 20000 in
theorem cw_yX3_addSome : Cond.code yX3_addSome cX3_addSome 4 none ∈ lw_tbl := tb_at 488 (by first | rfl | decide +kernel)
set_option maxRecDepth 20000 in
theorem cw_yX1_payFor : Cond.code yX1_payFor cX1_payFor 6 none ∈ lw_tbl := tb_at 494 (by first | rfl | decide +kernel)
set_option maxRecDepth 20000 in
theorem cw_yX1_nextToUse : Cond.code yX1_nextToUse cX1_nextToUse 3 ((some .int)) ∈ lw_tbl := tb_at 498 (by first | rfl | decide +kernel)
set_option maxRecDepth 20000 in
theorem cw_yX6_endPeriod : Cond.code yX6_endPeriod cX6_endPeriod 2 none ∈ lw_tbl := tb_at 504 (by first | rfl | decide +kernel)
set_option maxRecDepth 20000 in
theorem cw_yX5_copyFrom : Cond.code yX5_copyFrom cX5_copyFrom 3 none ∈ lw_tbl := tb_at 508 (by first | rfl | decide +kernel)
set_option maxRecDepth 20000 in
theorem cw_yX1_endIn : Cond.code yX1_endIn cX1_endIn 3 none ∈ lw_tbl := tb_at 512 (by first | rfl | decide +kernel)
set_option maxRecDepth 20000 in
theorem cw_yX7_used : Cond.code yX7_used cX7_used 5 ((some .long)) ∈ lw_tbl := tb_at 516 (by first | rfl | decide +kernel)
set_option maxRecDepth 20000 in
theorem cw_yX7_held : Cond.code yX7_held cX7_held 4 ((some .int)) ∈ lw_tbl := tb_at 520 (by first | rfl | decide +kernel)
set_option maxRecDepth 20000 in
theorem cw_yX7_room : Cond.code yX7_room cX7_room 4 ((some .int)) ∈ lw_tbl := tb_at 524 (by first | rfl | decide +kernel)
set_option maxRecDepth 20000 in
theorem cw_yX7_hold : Cond.code yX7_hold cX7_hold 4 ((some .int)) ∈ lw_tbl := tb_at 528 (by first | rfl | decide +kernel)
set_option maxRecDepth 20000 in
theorem cw_yX7_line : Cond.code yX7_line cX7_line 5 ((some .long)) ∈ lw_tbl := tb_at 532 (by first | rfl | decide +kernel)
set_option maxRecDepth 20000 in
theorem cw_yX7_invoiceAt : Cond.code yX7_invoiceAt cX7_invoiceAt 2 ((some (.object "QuotaMeter$Invoice"))) ∈ lw_tbl := tb_at 536 (by first | rfl | decide +kernel)
set_option maxRecDepth 20000 in
theorem cw_yX7_invoice : Cond.code yX7_invoice cX7_invoice 4 ((some .long)) ∈ lw_tbl := tb_at 540 (by first | rfl | decide +kernel)
set_option maxRecDepth 20000 in
theorem cw_yX7_left : Cond.code yX7_left cX7_left 4 ((some .long)) ∈ lw_tbl := tb_at 544 (by first | rfl | decide +kernel)
set_option maxRecDepth 20000 in
theorem cw_yX7_count : Cond.code yX7_count cX7_count 2 ((some .int)) ∈ lw_tbl := tb_at 548 (by first | rfl | decide +kernel)
set_option maxRecDepth 20000 in
theorem cw_yX7_closed : Cond.code yX7_closed cX7_closed 3 ((some .int)) ∈ lw_tbl := tb_at 552 (by first | rfl | decide +kernel)
set_option maxRecDepth 20000 in
theorem cw_yX8_account : Cond.code yX8_account cX8_account 4 ((some .int)) ∈ lw_tbl := tb_at 556 (by first | rfl | decide +kernel)
set_option maxRecDepth 20000 in
theorem cw_yX8_isTenant : Cond.code yX8_isTenant cX8_isTenant 1 ((some .boolean)) ∈ lw_tbl := tb_at 559 (by first | rfl | decide +kernel)
set_option maxRecDepth 20000 in
theorem cw_yX8_isAccount : Cond.code yX8_isAccount cX8_isAccount 2 ((some .boolean)) ∈ lw_tbl := tb_at 564 (by first | rfl | decide +kernel)
set_option maxRecDepth 20000 in
theorem cw_yX8_tick : Cond.code yX8_tick cX8_tick 2 ((some .int)) ∈ lw_tbl := tb_at 568 (by first | rfl | decide +kernel)
set_option maxRecDepth 20000 in
theorem cw_yX8_limit : Cond.code yX8_limit cX8_limit 4 ((some .int)) ∈ lw_tbl := tb_at 573 (by first | rfl | decide +kernel)
set_option maxRecDepth 20000 in
theorem cw_yX8_isResource : Cond.code yX8_isResource cX8_isResource 1 ((some .boolean)) ∈ lw_tbl := tb_at 576 (by first | rfl | decide +kernel)
set_option maxRecDepth 20000 in
theorem cw_yX8_event : Cond.code yX8_event cX8_event 7 ((some .int)) ∈ lw_tbl := tb_at 581 (by first | rfl | decide +kernel)
set_option maxRecDepth 20000 in
theorem cw_yX8_areUnits : Cond.code yX8_areUnits cX8_areUnits 1 ((some .boolean)) ∈ lw_tbl := tb_at 584 (by first | rfl | decide +kernel)
set_option maxRecDepth 20000 in
theorem cw_yX8_come : Cond.code yX8_come cX8_come 10 ((some .int)) ∈ lw_tbl := tb_at 589 (by first | rfl | decide +kernel)
set_option maxRecDepth 20000 in
theorem cw_yX8_forget : Cond.code yX8_forget cX8_forget 3 none ∈ lw_tbl := tb_at 593 (by first | rfl | decide +kernel)
set_option maxRecDepth 20000 in
theorem cw_yX8_adjust : Cond.code yX8_adjust cX8_adjust 9 none ∈ lw_tbl := tb_at 597 (by first | rfl | decide +kernel)
set_option maxRecDepth 20000 in
theorem cw_yX8_invoiceOf : Cond.code yX8_invoiceOf cX8_invoiceOf 4 ((some .int)) ∈ lw_tbl := tb_at 601 (by first | rfl | decide +kernel)
set_option maxRecDepth 20000 in
theorem cw_yX8_quantity : Cond.code yX8_quantity cX8_quantity 7 ((some .long)) ∈ lw_tbl := tb_at 605 (by first | rfl | decide +kernel)
set_option maxRecDepth 20000 in
theorem cw_yX8_cell : Cond.code yX8_cell cX8_cell 3 ((some .int)) ∈ lw_tbl := tb_at 608 (by first | rfl | decide +kernel)
set_option maxRecDepth 20000 in
theorem cw_yX8_costOf : Cond.code yX8_costOf cX8_costOf 20 ((some .long)) ∈ lw_tbl := tb_at 612 (by first | rfl | decide +kernel)
set_option maxRecDepth 20000 in
theorem cw_yX8_used : Cond.code yX8_used cX8_used 4 ((some .long)) ∈ lw_tbl := tb_at 618 (by first | rfl | decide +kernel)
set_option maxRecDepth 20000 in
theorem cw_yX8_usedOf : Cond.code yX8_usedOf cX8_usedOf 7 ((some .long)) ∈ lw_tbl := tb_at 622 (by first | rfl | decide +kernel)
set_option maxRecDepth 20000 in
theorem cw_yX8_lies : Cond.code yX8_lies cX8_lies 4 ((some .boolean)) ∈ lw_tbl := tb_at 626 (by first | rfl | decide +kernel)
set_option maxRecDepth 20000 in
theorem cw_yX8_held : Cond.code yX8_held cX8_held 3 ((some .int)) ∈ lw_tbl := tb_at 631 (by first | rfl | decide +kernel)
set_option maxRecDepth 20000 in
theorem cw_yX8_heldOf : Cond.code yX8_heldOf cX8_heldOf 5 ((some .int)) ∈ lw_tbl := tb_at 635 (by first | rfl | decide +kernel)
set_option maxRecDepth 20000 in
theorem cw_yX8_isOpen : Cond.code yX8_isOpen cX8_isOpen 2 ((some .boolean)) ∈ lw_tbl := tb_at 639 (by first | rfl | decide +kernel)
set_option maxRecDepth 20000 in
theorem cw_yX8_room : Cond.code yX8_room cX8_room 3 ((some .int)) ∈ lw_tbl := tb_at 643 (by first | rfl | decide +kernel)
set_option maxRecDepth 20000 in
theorem cw_yX8_roomOf : Cond.code yX8_roomOf cX8_roomOf 6 ((some .long)) ∈ lw_tbl := tb_at 647 (by first | rfl | decide +kernel)
set_option maxRecDepth 20000 in
theorem cw_yX8_request : Cond.code yX8_request cX8_request 4 ((some .int)) ∈ lw_tbl := tb_at 653 (by first | rfl | decide +kernel)
set_option maxRecDepth 20000 in
theorem cw_yX8_open : Cond.code yX8_open cX8_open 3 ((some .int)) ∈ lw_tbl := tb_at 657 (by first | rfl | decide +kernel)
set_option maxRecDepth 20000 in
theorem cw_yX8_settle : Cond.code yX8_settle cX8_settle 6 ((some .int)) ∈ lw_tbl := tb_at 661 (by first | rfl | decide +kernel)
set_option maxRecDepth 20000 in
theorem cw_yX8_drop : Cond.code yX8_drop cX8_drop 2 ((some .int)) ∈ lw_tbl := tb_at 665 (by first | rfl | decide +kernel)
set_option maxRecDepth 20000 in
theorem cw_yX8_hold : Cond.code yX8_hold cX8_hold 3 ((some .int)) ∈ lw_tbl := tb_at 669 (by first | rfl | decide +kernel)
set_option maxRecDepth 20000 in
theorem cw_yX8_init : Cond.code yX8_init cX8_init 2 none ∈ lw_tbl := tb_at 673 (by first | rfl | decide +kernel)
set_option maxRecDepth 20000 in
theorem cw_yX8_mode : Cond.code yX8_mode cX8_mode 5 ((some .int)) ∈ lw_tbl := tb_at 776 (by first | rfl | decide +kernel)
set_option maxRecDepth 20000 in
theorem cw_yX8_row : Cond.code yX8_row cX8_row 2 ((some .int)) ∈ lw_tbl := tb_at 780 (by first | rfl | decide +kernel)
set_option maxRecDepth 20000 in
theorem cw_yX8_tier : Cond.code yX8_tier cX8_tier 17 ((some .int)) ∈ lw_tbl := tb_at 784 (by first | rfl | decide +kernel)
set_option maxRecDepth 20000 in
theorem cw_yX8_tiers : Cond.code yX8_tiers cX8_tiers 5 ((some .int)) ∈ lw_tbl := tb_at 789 (by first | rfl | decide +kernel)
set_option maxRecDepth 20000 in
theorem cw_yX8_cost : Cond.code yX8_cost cX8_cost 5 ((some .long)) ∈ lw_tbl := tb_at 793 (by first | rfl | decide +kernel)
set_option maxRecDepth 20000 in
theorem cw_yX8_terms : Cond.code yX8_terms cX8_terms 6 ((some .int)) ∈ lw_tbl := tb_at 797 (by first | rfl | decide +kernel)
set_option maxRecDepth 20000 in
theorem cw_yX8_credit : Cond.code yX8_credit cX8_credit 7 ((some .int)) ∈ lw_tbl := tb_at 802 (by first | rfl | decide +kernel)
set_option maxRecDepth 20000 in
theorem cw_yX8_leftOf : Cond.code yX8_leftOf cX8_leftOf 4 ((some .long)) ∈ lw_tbl := tb_at 806 (by first | rfl | decide +kernel)
set_option maxRecDepth 20000 in
theorem cw_yX8_left : Cond.code yX8_left cX8_left 3 ((some .long)) ∈ lw_tbl := tb_at 810 (by first | rfl | decide +kernel)
set_option maxRecDepth 20000 in
theorem cw_yX8_close : Cond.code yX8_close cX8_close 10 ((some .int)) ∈ lw_tbl := tb_at 814 (by first | rfl | decide +kernel)
set_option maxRecDepth 20000 in
theorem cw_yX8_line : Cond.code yX8_line cX8_line 8 none ∈ lw_tbl := tb_at 821 (by first | rfl | decide +kernel)
set_option maxRecDepth 20000 in
theorem cw_yX8_part : Cond.code yX8_part cX8_part 8 ((some .long)) ∈ lw_tbl := tb_at 824 (by first | rfl | decide +kernel)
set_option maxRecDepth 20000 in
theorem cw_yX8_useCredits : Cond.code yX8_useCredits cX8_useCredits 11 none ∈ lw_tbl := tb_at 832 (by first | rfl | decide +kernel)
set_option maxRecDepth 20000 in
theorem cw_yX8_line_ : Cond.code yX8_line_ cX8_line_ 4 ((some .long)) ∈ lw_tbl := tb_at 836 (by first | rfl | decide +kernel)
set_option maxRecDepth 20000 in
theorem cw_yX8_invoice : Cond.code yX8_invoice cX8_invoice 6 ((some .long)) ∈ lw_tbl := tb_at 840 (by first | rfl | decide +kernel)
set_option maxRecDepth 20000 in
theorem cw_yX8_count : Cond.code yX8_count cX8_count 2 ((some .int)) ∈ lw_tbl := tb_at 844 (by first | rfl | decide +kernel)
set_option maxRecDepth 20000 in
theorem cw_yX8_closed : Cond.code yX8_closed cX8_closed 2 ((some .int)) ∈ lw_tbl := tb_at 848 (by first | rfl | decide +kernel)
theorem im_yX7_init : Cond.instanceMethod yX7_init ∈ lw_tbl := tb_at 15 (by decide +kernel)
theorem im_objectInit : Cond.instanceMethod objectInit ∈ lw_tbl := tb_at 18 (by decide +kernel)
theorem im_yX4_init : Cond.instanceMethod yX4_init ∈ lw_tbl := tb_at 31 (by decide +kernel)
theorem im_yX6_init : Cond.instanceMethod yX6_init ∈ lw_tbl := tb_at 52 (by decide +kernel)
theorem im_yX1_init : Cond.instanceMethod yX1_init ∈ lw_tbl := tb_at 60 (by decide +kernel)
theorem im_yX5_init : Cond.instanceMethod yX5_init ∈ lw_tbl := tb_at 77 (by decide +kernel)
theorem im_yX7_account : Cond.instanceMethod yX7_account ∈ lw_tbl := tb_at 172 (by decide +kernel)
theorem im_yX7_tenantAt : Cond.instanceMethod yX7_tenantAt ∈ lw_tbl := tb_at 177 (by decide +kernel)
theorem im_yX7_accountAt : Cond.instanceMethod yX7_accountAt ∈ lw_tbl := tb_at 181 (by decide +kernel)
theorem im_yX0_init : Cond.instanceMethod yX0_init ∈ lw_tbl := tb_at 185 (by decide +kernel)
theorem im_yX7_tick : Cond.instanceMethod yX7_tick ∈ lw_tbl := tb_at 216 (by decide +kernel)
theorem im_yX4_forgetOld : Cond.instanceMethod yX4_forgetOld ∈ lw_tbl := tb_at 221 (by decide +kernel)
theorem im_yX7_endOldHolds : Cond.instanceMethod yX7_endOldHolds ∈ lw_tbl := tb_at 226 (by decide +kernel)
theorem im_yX7_openHoldAt : Cond.instanceMethod yX7_openHoldAt ∈ lw_tbl := tb_at 230 (by decide +kernel)
theorem im_yX7_holdAt : Cond.instanceMethod yX7_holdAt ∈ lw_tbl := tb_at 234 (by decide +kernel)
theorem im_yX7_endHold : Cond.instanceMethod yX7_endHold ∈ lw_tbl := tb_at 238 (by decide +kernel)
theorem im_yX0_addHeld : Cond.instanceMethod yX0_addHeld ∈ lw_tbl := tb_at 241 (by decide +kernel)
theorem im_yX7_event : Cond.instanceMethod yX7_event ∈ lw_tbl := tb_at 245 (by decide +kernel)
theorem im_yX4_knows : Cond.instanceMethod yX4_knows ∈ lw_tbl := tb_at 256 (by decide +kernel)
theorem im_yX4_learn : Cond.instanceMethod yX4_learn ∈ lw_tbl := tb_at 260 (by decide +kernel)
theorem im_yX7_countUnits : Cond.instanceMethod yX7_countUnits ∈ lw_tbl := tb_at 265 (by decide +kernel)
theorem im_yX7_quantityOf : Cond.instanceMethod yX7_quantityOf ∈ lw_tbl := tb_at 269 (by decide +kernel)
theorem im_yX6_adjust : Cond.instanceMethod yX6_adjust ∈ lw_tbl := tb_at 272 (by decide +kernel)
theorem im_yX5_costOf : Cond.instanceMethod yX5_costOf ∈ lw_tbl := tb_at 276 (by decide +kernel)
theorem im_yX5_costAtLastTier : Cond.instanceMethod yX5_costAtLastTier ∈ lw_tbl := tb_at 281 (by decide +kernel)
theorem im_yX5_costByTiers : Cond.instanceMethod yX5_costByTiers ∈ lw_tbl := tb_at 285 (by decide +kernel)
theorem im_yX5_pricedParts : Cond.instanceMethod yX5_pricedParts ∈ lw_tbl := tb_at 292 (by decide +kernel)
theorem im_yX0_addUsed : Cond.instanceMethod yX0_addUsed ∈ lw_tbl := tb_at 295 (by decide +kernel)
theorem im_yX7_limit : Cond.instanceMethod yX7_limit ∈ lw_tbl := tb_at 299 (by decide +kernel)
theorem im_yX7_request : Cond.instanceMethod yX7_request ∈ lw_tbl := tb_at 304 (by decide +kernel)
theorem im_yX0_freeUnits : Cond.instanceMethod yX0_freeUnits ∈ lw_tbl := tb_at 308 (by decide +kernel)
theorem im_yX2_init : Cond.instanceMethod yX2_init ∈ lw_tbl := tb_at 318 (by decide +kernel)
theorem im_yX7_settle : Cond.instanceMethod yX7_settle ∈ lw_tbl := tb_at 343 (by decide +kernel)
theorem im_yX7_drop : Cond.instanceMethod yX7_drop ∈ lw_tbl := tb_at 348 (by decide +kernel)
theorem im_yX7_mode : Cond.instanceMethod yX7_mode ∈ lw_tbl := tb_at 352 (by decide +kernel)
theorem im_yX7_pricesAt : Cond.instanceMethod yX7_pricesAt ∈ lw_tbl := tb_at 357 (by decide +kernel)
theorem im_yX7_tier : Cond.instanceMethod yX7_tier ∈ lw_tbl := tb_at 361 (by decide +kernel)
theorem im_yX5_putTier : Cond.instanceMethod yX5_putTier ∈ lw_tbl := tb_at 366 (by decide +kernel)
theorem im_yX5_wouldRise : Cond.instanceMethod yX5_wouldRise ∈ lw_tbl := tb_at 374 (by decide +kernel)
theorem im_yX7_tiers : Cond.instanceMethod yX7_tiers ∈ lw_tbl := tb_at 377 (by decide +kernel)
theorem im_yX7_cost : Cond.instanceMethod yX7_cost ∈ lw_tbl := tb_at 384 (by decide +kernel)
theorem im_yX7_terms : Cond.instanceMethod yX7_terms ∈ lw_tbl := tb_at 390 (by decide +kernel)
theorem im_yX7_credit : Cond.instanceMethod yX7_credit ∈ lw_tbl := tb_at 398 (by decide +kernel)
theorem im_yX1_give : Cond.instanceMethod yX1_give ∈ lw_tbl := tb_at 405 (by decide +kernel)
theorem im_yX1_countLasting : Cond.instanceMethod yX1_countLasting ∈ lw_tbl := tb_at 410 (by decide +kernel)
theorem im_yX7_close : Cond.instanceMethod yX7_close ∈ lw_tbl := tb_at 413 (by decide +kernel)
theorem im_yX3_init : Cond.instanceMethod yX3_init ∈ lw_tbl := tb_at 418 (by decide +kernel)
theorem im_yX7_billUsage : Cond.instanceMethod yX7_billUsage ∈ lw_tbl := tb_at 458 (by decide +kernel)
theorem im_yX3_add : Cond.instanceMethod yX3_add ∈ lw_tbl := tb_at 461 (by decide +kernel)
theorem im_yX6_billAdjustments : Cond.instanceMethod yX6_billAdjustments ∈ lw_tbl := tb_at 465 (by decide +kernel)
theorem im_yX6_billTerms : Cond.instanceMethod yX6_billTerms ∈ lw_tbl := tb_at 470 (by decide +kernel)
theorem im_yX3_partOfSum : Cond.instanceMethod yX3_partOfSum ∈ lw_tbl := tb_at 474 (by decide +kernel)
theorem im_yX3_addSome : Cond.instanceMethod yX3_addSome ∈ lw_tbl := tb_at 486 (by decide +kernel)
theorem im_yX1_payFor : Cond.instanceMethod yX1_payFor ∈ lw_tbl := tb_at 492 (by decide +kernel)
theorem im_yX1_nextToUse : Cond.instanceMethod yX1_nextToUse ∈ lw_tbl := tb_at 497 (by decide +kernel)
theorem im_yX6_endPeriod : Cond.instanceMethod yX6_endPeriod ∈ lw_tbl := tb_at 502 (by decide +kernel)
theorem im_yX5_copyFrom : Cond.instanceMethod yX5_copyFrom ∈ lw_tbl := tb_at 506 (by decide +kernel)
theorem im_yX1_endIn : Cond.instanceMethod yX1_endIn ∈ lw_tbl := tb_at 510 (by decide +kernel)
theorem im_yX7_used : Cond.instanceMethod yX7_used ∈ lw_tbl := tb_at 514 (by decide +kernel)
theorem im_yX7_held : Cond.instanceMethod yX7_held ∈ lw_tbl := tb_at 518 (by decide +kernel)
theorem im_yX7_room : Cond.instanceMethod yX7_room ∈ lw_tbl := tb_at 522 (by decide +kernel)
theorem im_yX7_hold : Cond.instanceMethod yX7_hold ∈ lw_tbl := tb_at 526 (by decide +kernel)
theorem im_yX7_line : Cond.instanceMethod yX7_line ∈ lw_tbl := tb_at 530 (by decide +kernel)
theorem im_yX7_invoiceAt : Cond.instanceMethod yX7_invoiceAt ∈ lw_tbl := tb_at 535 (by decide +kernel)
theorem im_yX7_invoice : Cond.instanceMethod yX7_invoice ∈ lw_tbl := tb_at 538 (by decide +kernel)
theorem im_yX7_left : Cond.instanceMethod yX7_left ∈ lw_tbl := tb_at 542 (by decide +kernel)
theorem im_yX7_count : Cond.instanceMethod yX7_count ∈ lw_tbl := tb_at 546 (by decide +kernel)
theorem im_yX7_closed : Cond.instanceMethod yX7_closed ∈ lw_tbl := tb_at 550 (by decide +kernel)
theorem im_yX8_account : Cond.instanceMethod yX8_account ∈ lw_tbl := tb_at 554 (by decide +kernel)
theorem im_yX8_isAccount : Cond.instanceMethod yX8_isAccount ∈ lw_tbl := tb_at 562 (by decide +kernel)
theorem im_yX8_tick : Cond.instanceMethod yX8_tick ∈ lw_tbl := tb_at 566 (by decide +kernel)
theorem im_yX8_limit : Cond.instanceMethod yX8_limit ∈ lw_tbl := tb_at 571 (by decide +kernel)
theorem im_yX8_event : Cond.instanceMethod yX8_event ∈ lw_tbl := tb_at 579 (by decide +kernel)
theorem im_yX8_come : Cond.instanceMethod yX8_come ∈ lw_tbl := tb_at 588 (by decide +kernel)
theorem im_yX8_forget : Cond.instanceMethod yX8_forget ∈ lw_tbl := tb_at 592 (by decide +kernel)
theorem im_yX8_adjust : Cond.instanceMethod yX8_adjust ∈ lw_tbl := tb_at 596 (by decide +kernel)
theorem im_yX8_invoiceOf : Cond.instanceMethod yX8_invoiceOf ∈ lw_tbl := tb_at 600 (by decide +kernel)
theorem im_yX8_quantity : Cond.instanceMethod yX8_quantity ∈ lw_tbl := tb_at 604 (by decide +kernel)
theorem im_yX8_costOf : Cond.instanceMethod yX8_costOf ∈ lw_tbl := tb_at 611 (by decide +kernel)
theorem im_yX8_used : Cond.instanceMethod yX8_used ∈ lw_tbl := tb_at 616 (by decide +kernel)
theorem im_yX8_usedOf : Cond.instanceMethod yX8_usedOf ∈ lw_tbl := tb_at 621 (by decide +kernel)
theorem im_yX8_lies : Cond.instanceMethod yX8_lies ∈ lw_tbl := tb_at 625 (by decide +kernel)
theorem im_yX8_held : Cond.instanceMethod yX8_held ∈ lw_tbl := tb_at 629 (by decide +kernel)
theorem im_yX8_heldOf : Cond.instanceMethod yX8_heldOf ∈ lw_tbl := tb_at 634 (by decide +kernel)
theorem im_yX8_isOpen : Cond.instanceMethod yX8_isOpen ∈ lw_tbl := tb_at 638 (by decide +kernel)
theorem im_yX8_room : Cond.instanceMethod yX8_room ∈ lw_tbl := tb_at 641 (by decide +kernel)
theorem im_yX8_roomOf : Cond.instanceMethod yX8_roomOf ∈ lw_tbl := tb_at 646 (by decide +kernel)
theorem im_yX8_request : Cond.instanceMethod yX8_request ∈ lw_tbl := tb_at 651 (by decide +kernel)
theorem im_yX8_open : Cond.instanceMethod yX8_open ∈ lw_tbl := tb_at 656 (by decide +kernel)
theorem im_yX8_settle : Cond.instanceMethod yX8_settle ∈ lw_tbl := tb_at 659 (by decide +kernel)
theorem im_yX8_drop : Cond.instanceMethod yX8_drop ∈ lw_tbl := tb_at 663 (by decide +kernel)
theorem im_yX8_hold : Cond.instanceMethod yX8_hold ∈ lw_tbl := tb_at 667 (by decide +kernel)
theorem im_yX8_init : Cond.instanceMethod yX8_init ∈ lw_tbl := tb_at 672 (by decide +kernel)
theorem im_yX8_mode : Cond.instanceMethod yX8_mode ∈ lw_tbl := tb_at 774 (by decide +kernel)
theorem im_yX8_tier : Cond.instanceMethod yX8_tier ∈ lw_tbl := tb_at 782 (by decide +kernel)
theorem im_yX8_tiers : Cond.instanceMethod yX8_tiers ∈ lw_tbl := tb_at 787 (by decide +kernel)
theorem im_yX8_cost : Cond.instanceMethod yX8_cost ∈ lw_tbl := tb_at 791 (by decide +kernel)
theorem im_yX8_terms : Cond.instanceMethod yX8_terms ∈ lw_tbl := tb_at 795 (by decide +kernel)
theorem im_yX8_credit : Cond.instanceMethod yX8_credit ∈ lw_tbl := tb_at 800 (by decide +kernel)
theorem im_yX8_leftOf : Cond.instanceMethod yX8_leftOf ∈ lw_tbl := tb_at 805 (by decide +kernel)
theorem im_yX8_left : Cond.instanceMethod yX8_left ∈ lw_tbl := tb_at 808 (by decide +kernel)
theorem im_yX8_close : Cond.instanceMethod yX8_close ∈ lw_tbl := tb_at 812 (by decide +kernel)
theorem im_yX8_line : Cond.instanceMethod yX8_line ∈ lw_tbl := tb_at 820 (by decide +kernel)
theorem im_yX8_useCredits : Cond.instanceMethod yX8_useCredits ∈ lw_tbl := tb_at 831 (by decide +kernel)
theorem im_yX8_line_ : Cond.instanceMethod yX8_line_ ∈ lw_tbl := tb_at 834 (by decide +kernel)
theorem im_yX8_invoice : Cond.instanceMethod yX8_invoice ∈ lw_tbl := tb_at 838 (by decide +kernel)
theorem im_yX8_count : Cond.instanceMethod yX8_count ∈ lw_tbl := tb_at 842 (by decide +kernel)
theorem im_yX8_closed : Cond.instanceMethod yX8_closed ∈ lw_tbl := tb_at 846 (by decide +kernel)
theorem sm_yX7_isResource : Cond.static yX7_isResource ∈ lw_tbl := tb_at 249 (by decide +kernel)
theorem sm_yX7_isUnits : Cond.static yX7_isUnits ∈ lw_tbl := tb_at 252 (by decide +kernel)
theorem sm_yJ9_min_f86c9 : Cond.static yJ9_min_f86c9 ∈ lw_tbl := tb_at 288 (by decide +kernel)
theorem sm_yJ9_max_f86c9 : Cond.static yJ9_max_f86c9 ∈ lw_tbl := tb_at 314 (by decide +kernel)
theorem sm_yJ9_max_7cf53 : Cond.static yJ9_max_7cf53 ∈ lw_tbl := tb_at 370 (by decide +kernel)
theorem sm_yJ9_min_7cf53 : Cond.static yJ9_min_7cf53 ∈ lw_tbl := tb_at 381 (by decide +kernel)
theorem sm_yX7_isRate : Cond.static yX7_isRate ∈ lw_tbl := tb_at 394 (by decide +kernel)
theorem sm_yX7_isPeriod : Cond.static yX7_isPeriod ∈ lw_tbl := tb_at 402 (by decide +kernel)
theorem sm_yJ9_floorMod_f86c9 : Cond.static yJ9_floorMod_f86c9 ∈ lw_tbl := tb_at 479 (by decide +kernel)
theorem sm_yJ9_floorDiv_f86c9 : Cond.static yJ9_floorDiv_f86c9 ∈ lw_tbl := tb_at 482 (by decide +kernel)
theorem sm_yX8_isTenant : Cond.static yX8_isTenant ∈ lw_tbl := tb_at 558 (by decide +kernel)
theorem sm_yX8_isResource : Cond.static yX8_isResource ∈ lw_tbl := tb_at 575 (by decide +kernel)
theorem sm_yX8_areUnits : Cond.static yX8_areUnits ∈ lw_tbl := tb_at 583 (by decide +kernel)
theorem sm_yX8_cell : Cond.static yX8_cell ∈ lw_tbl := tb_at 607 (by decide +kernel)
theorem sm_yX8_row : Cond.static yX8_row ∈ lw_tbl := tb_at 779 (by decide +kernel)
theorem sm_arraycopyName : Cond.static arraycopyName ∈ lw_tbl := tb_at 816 (by decide +kernel)
theorem sm_yX8_part : Cond.static yX8_part ∈ lw_tbl := tb_at 823 (by decide +kernel)
theorem se_yX7_account : Cond.selects yX7_account.cls yX7_account yX7_account ∈ lw_tbl := tb_at 173 (by decide +kernel)
theorem se_yX7_tick : Cond.selects yX7_tick.cls yX7_tick yX7_tick ∈ lw_tbl := tb_at 217 (by decide +kernel)
theorem se_yX4_forgetOld : Cond.selects yX4_forgetOld.cls yX4_forgetOld yX4_forgetOld ∈ lw_tbl := tb_at 222 (by decide +kernel)
theorem se_yX0_addHeld : Cond.selects yX0_addHeld.cls yX0_addHeld yX0_addHeld ∈ lw_tbl := tb_at 242 (by decide +kernel)
theorem se_yX7_event : Cond.selects yX7_event.cls yX7_event yX7_event ∈ lw_tbl := tb_at 246 (by decide +kernel)
theorem se_yX4_knows : Cond.selects yX4_knows.cls yX4_knows yX4_knows ∈ lw_tbl := tb_at 257 (by decide +kernel)
theorem se_yX4_learn : Cond.selects yX4_learn.cls yX4_learn yX4_learn ∈ lw_tbl := tb_at 261 (by decide +kernel)
theorem se_yX6_adjust : Cond.selects yX6_adjust.cls yX6_adjust yX6_adjust ∈ lw_tbl := tb_at 273 (by decide +kernel)
theorem se_yX5_costOf : Cond.selects yX5_costOf.cls yX5_costOf yX5_costOf ∈ lw_tbl := tb_at 277 (by decide +kernel)
theorem se_yX0_addUsed : Cond.selects yX0_addUsed.cls yX0_addUsed yX0_addUsed ∈ lw_tbl := tb_at 296 (by decide +kernel)
theorem se_yX7_limit : Cond.selects yX7_limit.cls yX7_limit yX7_limit ∈ lw_tbl := tb_at 300 (by decide +kernel)
theorem se_yX7_request : Cond.selects yX7_request.cls yX7_request yX7_request ∈ lw_tbl := tb_at 305 (by decide +kernel)
theorem se_yX0_freeUnits : Cond.selects yX0_freeUnits.cls yX0_freeUnits yX0_freeUnits ∈ lw_tbl := tb_at 309 (by decide +kernel)
theorem se_yX7_settle : Cond.selects yX7_settle.cls yX7_settle yX7_settle ∈ lw_tbl := tb_at 344 (by decide +kernel)
theorem se_yX7_drop : Cond.selects yX7_drop.cls yX7_drop yX7_drop ∈ lw_tbl := tb_at 349 (by decide +kernel)
theorem se_yX7_mode : Cond.selects yX7_mode.cls yX7_mode yX7_mode ∈ lw_tbl := tb_at 353 (by decide +kernel)
theorem se_yX7_tier : Cond.selects yX7_tier.cls yX7_tier yX7_tier ∈ lw_tbl := tb_at 362 (by decide +kernel)
theorem se_yX5_putTier : Cond.selects yX5_putTier.cls yX5_putTier yX5_putTier ∈ lw_tbl := tb_at 367 (by decide +kernel)
theorem se_yX7_tiers : Cond.selects yX7_tiers.cls yX7_tiers yX7_tiers ∈ lw_tbl := tb_at 378 (by decide +kernel)
theorem se_yX7_cost : Cond.selects yX7_cost.cls yX7_cost yX7_cost ∈ lw_tbl := tb_at 385 (by decide +kernel)
theorem se_yX7_terms : Cond.selects yX7_terms.cls yX7_terms yX7_terms ∈ lw_tbl := tb_at 391 (by decide +kernel)
theorem se_yX7_credit : Cond.selects yX7_credit.cls yX7_credit yX7_credit ∈ lw_tbl := tb_at 399 (by decide +kernel)
theorem se_yX1_give : Cond.selects yX1_give.cls yX1_give yX1_give ∈ lw_tbl := tb_at 406 (by decide +kernel)
theorem se_yX7_close : Cond.selects yX7_close.cls yX7_close yX7_close ∈ lw_tbl := tb_at 414 (by decide +kernel)
theorem se_yX3_add : Cond.selects yX3_add.cls yX3_add yX3_add ∈ lw_tbl := tb_at 462 (by decide +kernel)
theorem se_yX6_billAdjustments : Cond.selects yX6_billAdjustments.cls yX6_billAdjustments yX6_billAdjustments ∈ lw_tbl := tb_at 466 (by decide +kernel)
theorem se_yX6_billTerms : Cond.selects yX6_billTerms.cls yX6_billTerms yX6_billTerms ∈ lw_tbl := tb_at 471 (by decide +kernel)
theorem se_yX3_partOfSum : Cond.selects yX3_partOfSum.cls yX3_partOfSum yX3_partOfSum ∈ lw_tbl := tb_at 475 (by decide +kernel)
theorem se_yX3_addSome : Cond.selects yX3_addSome.cls yX3_addSome yX3_addSome ∈ lw_tbl := tb_at 487 (by decide +kernel)
theorem se_yX1_payFor : Cond.selects yX1_payFor.cls yX1_payFor yX1_payFor ∈ lw_tbl := tb_at 493 (by decide +kernel)
theorem se_yX6_endPeriod : Cond.selects yX6_endPeriod.cls yX6_endPeriod yX6_endPeriod ∈ lw_tbl := tb_at 503 (by decide +kernel)
theorem se_yX5_copyFrom : Cond.selects yX5_copyFrom.cls yX5_copyFrom yX5_copyFrom ∈ lw_tbl := tb_at 507 (by decide +kernel)
theorem se_yX1_endIn : Cond.selects yX1_endIn.cls yX1_endIn yX1_endIn ∈ lw_tbl := tb_at 511 (by decide +kernel)
theorem se_yX7_used : Cond.selects yX7_used.cls yX7_used yX7_used ∈ lw_tbl := tb_at 515 (by decide +kernel)
theorem se_yX7_held : Cond.selects yX7_held.cls yX7_held yX7_held ∈ lw_tbl := tb_at 519 (by decide +kernel)
theorem se_yX7_room : Cond.selects yX7_room.cls yX7_room yX7_room ∈ lw_tbl := tb_at 523 (by decide +kernel)
theorem se_yX7_hold : Cond.selects yX7_hold.cls yX7_hold yX7_hold ∈ lw_tbl := tb_at 527 (by decide +kernel)
theorem se_yX7_line : Cond.selects yX7_line.cls yX7_line yX7_line ∈ lw_tbl := tb_at 531 (by decide +kernel)
theorem se_yX7_invoice : Cond.selects yX7_invoice.cls yX7_invoice yX7_invoice ∈ lw_tbl := tb_at 539 (by decide +kernel)
theorem se_yX7_left : Cond.selects yX7_left.cls yX7_left yX7_left ∈ lw_tbl := tb_at 543 (by decide +kernel)
theorem se_yX7_count : Cond.selects yX7_count.cls yX7_count yX7_count ∈ lw_tbl := tb_at 547 (by decide +kernel)
theorem se_yX7_closed : Cond.selects yX7_closed.cls yX7_closed yX7_closed ∈ lw_tbl := tb_at 551 (by decide +kernel)
theorem se_yX8_account : Cond.selects yX8_account.cls yX8_account yX8_account ∈ lw_tbl := tb_at 555 (by decide +kernel)
theorem se_yX8_tick : Cond.selects yX8_tick.cls yX8_tick yX8_tick ∈ lw_tbl := tb_at 567 (by decide +kernel)
theorem se_yX8_limit : Cond.selects yX8_limit.cls yX8_limit yX8_limit ∈ lw_tbl := tb_at 572 (by decide +kernel)
theorem se_yX8_event : Cond.selects yX8_event.cls yX8_event yX8_event ∈ lw_tbl := tb_at 580 (by decide +kernel)
theorem se_yX8_used : Cond.selects yX8_used.cls yX8_used yX8_used ∈ lw_tbl := tb_at 617 (by decide +kernel)
theorem se_yX8_held : Cond.selects yX8_held.cls yX8_held yX8_held ∈ lw_tbl := tb_at 630 (by decide +kernel)
theorem se_yX8_room : Cond.selects yX8_room.cls yX8_room yX8_room ∈ lw_tbl := tb_at 642 (by decide +kernel)
theorem se_yX8_request : Cond.selects yX8_request.cls yX8_request yX8_request ∈ lw_tbl := tb_at 652 (by decide +kernel)
theorem se_yX8_settle : Cond.selects yX8_settle.cls yX8_settle yX8_settle ∈ lw_tbl := tb_at 660 (by decide +kernel)
theorem se_yX8_drop : Cond.selects yX8_drop.cls yX8_drop yX8_drop ∈ lw_tbl := tb_at 664 (by decide +kernel)
theorem se_yX8_hold : Cond.selects yX8_hold.cls yX8_hold yX8_hold ∈ lw_tbl := tb_at 668 (by decide +kernel)
theorem se_yX8_mode : Cond.selects yX8_mode.cls yX8_mode yX8_mode ∈ lw_tbl := tb_at 775 (by decide +kernel)
theorem se_yX8_tier : Cond.selects yX8_tier.cls yX8_tier yX8_tier ∈ lw_tbl := tb_at 783 (by decide +kernel)
theorem se_yX8_tiers : Cond.selects yX8_tiers.cls yX8_tiers yX8_tiers ∈ lw_tbl := tb_at 788 (by decide +kernel)
theorem se_yX8_cost : Cond.selects yX8_cost.cls yX8_cost yX8_cost ∈ lw_tbl := tb_at 792 (by decide +kernel)
theorem se_yX8_terms : Cond.selects yX8_terms.cls yX8_terms yX8_terms ∈ lw_tbl := tb_at 796 (by decide +kernel)
theorem se_yX8_credit : Cond.selects yX8_credit.cls yX8_credit yX8_credit ∈ lw_tbl := tb_at 801 (by decide +kernel)
theorem se_yX8_left : Cond.selects yX8_left.cls yX8_left yX8_left ∈ lw_tbl := tb_at 809 (by decide +kernel)
theorem se_yX8_close : Cond.selects yX8_close.cls yX8_close yX8_close ∈ lw_tbl := tb_at 813 (by decide +kernel)
theorem se_yX8_line_ : Cond.selects yX8_line_.cls yX8_line_ yX8_line_ ∈ lw_tbl := tb_at 835 (by decide +kernel)
theorem se_yX8_invoice : Cond.selects yX8_invoice.cls yX8_invoice yX8_invoice ∈ lw_tbl := tb_at 839 (by decide +kernel)
theorem se_yX8_count : Cond.selects yX8_count.cls yX8_count yX8_count ∈ lw_tbl := tb_at 843 (by decide +kernel)
theorem se_yX8_closed : Cond.selects yX8_closed.cls yX8_closed yX8_closed ∈ lw_tbl := tb_at 847 (by decide +kernel)
theorem se_yX7_tenantAt : Cond.selects yX7_tenantAt.cls yX7_tenantAt yX7_tenantAt ∈ lw_tbl := pv_at (q := (yX7_tenantAt, 10)) 0 (by decide +kernel)
theorem se_yX7_accountAt : Cond.selects yX7_accountAt.cls yX7_accountAt yX7_accountAt ∈ lw_tbl := pv_at (q := (yX7_accountAt, 10)) 1 (by decide +kernel)
theorem se_yX7_endOldHolds : Cond.selects yX7_endOldHolds.cls yX7_endOldHolds yX7_endOldHolds ∈ lw_tbl := pv_at (q := (yX7_endOldHolds, 10)) 2 (by decide +kernel)
theorem se_yX7_openHoldAt : Cond.selects yX7_openHoldAt.cls yX7_openHoldAt yX7_openHoldAt ∈ lw_tbl := pv_at (q := (yX7_openHoldAt, 10)) 3 (by decide +kernel)
theorem se_yX7_holdAt : Cond.selects yX7_holdAt.cls yX7_holdAt yX7_holdAt ∈ lw_tbl := pv_at (q := (yX7_holdAt, 10)) 4 (by decide +kernel)
theorem se_yX7_endHold : Cond.selects yX7_endHold.cls yX7_endHold yX7_endHold ∈ lw_tbl := pv_at (q := (yX7_endHold, 10)) 5 (by decide +kernel)
theorem se_yX7_countUnits : Cond.selects yX7_countUnits.cls yX7_countUnits yX7_countUnits ∈ lw_tbl := pv_at (q := (yX7_countUnits, 10)) 6 (by decide +kernel)
theorem se_yX7_quantityOf : Cond.selects yX7_quantityOf.cls yX7_quantityOf yX7_quantityOf ∈ lw_tbl := pv_at (q := (yX7_quantityOf, 10)) 7 (by decide +kernel)
theorem se_yX5_costAtLastTier : Cond.selects yX5_costAtLastTier.cls yX5_costAtLastTier yX5_costAtLastTier ∈ lw_tbl := pv_at (q := (yX5_costAtLastTier, 6)) 8 (by decide +kernel)
theorem se_yX5_costByTiers : Cond.selects yX5_costByTiers.cls yX5_costByTiers yX5_costByTiers ∈ lw_tbl := pv_at (q := (yX5_costByTiers, 6)) 9 (by decide +kernel)
theorem se_yX5_pricedParts : Cond.selects yX5_pricedParts.cls yX5_pricedParts yX5_pricedParts ∈ lw_tbl := pv_at (q := (yX5_pricedParts, 6)) 10 (by decide +kernel)
theorem se_yX7_pricesAt : Cond.selects yX7_pricesAt.cls yX7_pricesAt yX7_pricesAt ∈ lw_tbl := pv_at (q := (yX7_pricesAt, 10)) 11 (by decide +kernel)
theorem se_yX5_wouldRise : Cond.selects yX5_wouldRise.cls yX5_wouldRise yX5_wouldRise ∈ lw_tbl := pv_at (q := (yX5_wouldRise, 6)) 12 (by decide +kernel)
theorem se_yX1_countLasting : Cond.selects yX1_countLasting.cls yX1_countLasting yX1_countLasting ∈ lw_tbl := pv_at (q := (yX1_countLasting, 3)) 13 (by decide +kernel)
theorem se_yX7_billUsage : Cond.selects yX7_billUsage.cls yX7_billUsage yX7_billUsage ∈ lw_tbl := pv_at (q := (yX7_billUsage, 10)) 14 (by decide +kernel)
theorem se_yX1_nextToUse : Cond.selects yX1_nextToUse.cls yX1_nextToUse yX1_nextToUse ∈ lw_tbl := pv_at (q := (yX1_nextToUse, 3)) 15 (by decide +kernel)
theorem se_yX7_invoiceAt : Cond.selects yX7_invoiceAt.cls yX7_invoiceAt yX7_invoiceAt ∈ lw_tbl := pv_at (q := (yX7_invoiceAt, 10)) 16 (by decide +kernel)
theorem se_yX8_isAccount : Cond.selects yX8_isAccount.cls yX8_isAccount yX8_isAccount ∈ lw_tbl := pv_at (q := (yX8_isAccount, 32)) 17 (by decide +kernel)
theorem se_yX8_come : Cond.selects yX8_come.cls yX8_come yX8_come ∈ lw_tbl := pv_at (q := (yX8_come, 32)) 18 (by decide +kernel)
theorem se_yX8_forget : Cond.selects yX8_forget.cls yX8_forget yX8_forget ∈ lw_tbl := pv_at (q := (yX8_forget, 32)) 19 (by decide +kernel)
theorem se_yX8_adjust : Cond.selects yX8_adjust.cls yX8_adjust yX8_adjust ∈ lw_tbl := pv_at (q := (yX8_adjust, 32)) 20 (by decide +kernel)
theorem se_yX8_invoiceOf : Cond.selects yX8_invoiceOf.cls yX8_invoiceOf yX8_invoiceOf ∈ lw_tbl := pv_at (q := (yX8_invoiceOf, 32)) 21 (by decide +kernel)
theorem se_yX8_quantity : Cond.selects yX8_quantity.cls yX8_quantity yX8_quantity ∈ lw_tbl := pv_at (q := (yX8_quantity, 32)) 22 (by decide +kernel)
theorem se_yX8_costOf : Cond.selects yX8_costOf.cls yX8_costOf yX8_costOf ∈ lw_tbl := pv_at (q := (yX8_costOf, 32)) 23 (by decide +kernel)
theorem se_yX8_usedOf : Cond.selects yX8_usedOf.cls yX8_usedOf yX8_usedOf ∈ lw_tbl := pv_at (q := (yX8_usedOf, 32)) 24 (by decide +kernel)
theorem se_yX8_lies : Cond.selects yX8_lies.cls yX8_lies yX8_lies ∈ lw_tbl := pv_at (q := (yX8_lies, 32)) 25 (by decide +kernel)
theorem se_yX8_heldOf : Cond.selects yX8_heldOf.cls yX8_heldOf yX8_heldOf ∈ lw_tbl := pv_at (q := (yX8_heldOf, 32)) 26 (by decide +kernel)
theorem se_yX8_isOpen : Cond.selects yX8_isOpen.cls yX8_isOpen yX8_isOpen ∈ lw_tbl := pv_at (q := (yX8_isOpen, 32)) 27 (by decide +kernel)
theorem se_yX8_roomOf : Cond.selects yX8_roomOf.cls yX8_roomOf yX8_roomOf ∈ lw_tbl := pv_at (q := (yX8_roomOf, 32)) 28 (by decide +kernel)
theorem se_yX8_open : Cond.selects yX8_open.cls yX8_open yX8_open ∈ lw_tbl := pv_at (q := (yX8_open, 32)) 29 (by decide +kernel)
theorem se_yX8_leftOf : Cond.selects yX8_leftOf.cls yX8_leftOf yX8_leftOf ∈ lw_tbl := pv_at (q := (yX8_leftOf, 32)) 30 (by decide +kernel)
theorem se_yX8_line : Cond.selects yX8_line.cls yX8_line yX8_line ∈ lw_tbl := pv_at (q := (yX8_line, 32)) 31 (by decide +kernel)
theorem se_yX8_useCredits : Cond.selects yX8_useCredits.cls yX8_useCredits yX8_useCredits ∈ lw_tbl := pv_at (q := (yX8_useCredits, 32)) 32 (by decide +kernel)
theorem cs_L_9 : qcI RL 9 yX7_init cX7_init 2 0 := ⟨⟨tb_at 14 (by decide +kernel), im_yX7_init, wi_X7, cw_yX7_init⟩, ⟨by decide, by decide, by decide +kernel⟩, rfl⟩
theorem ml_X7_3 : Cond.methodLink RX7 3 objectInit ∈ lw_tbl := tb_at 17 (by decide +kernel)
theorem cs_X7_35 : qcN RX7 35 yX4_init cX4_init 1 0 := ⟨⟨fun s z => z.1, im_yX4_init, wi_X4, cw_yX4_init⟩, ⟨by decide, by decide, by decide +kernel⟩, rfl⟩
theorem ml_X4_3 : Cond.methodLink RX4 3 objectInit ∈ lw_tbl := tb_at 33 (by decide +kernel)
theorem cs_X7_40 : qcI RX7 40 yX6_init cX6_init 3 1 := ⟨⟨tb_at 51 (by decide +kernel), im_yX6_init, wi_X6, cw_yX6_init⟩, ⟨by decide, by decide, by decide +kernel⟩, rfl⟩
theorem ml_X6_3 : Cond.methodLink RX6 3 objectInit ∈ lw_tbl := tb_at 54 (by decide +kernel)
theorem cs_X6_29 : qcN RX6 29 yX1_init cX1_init 1 0 := ⟨⟨fun s z => z.2, im_yX1_init, wi_X1, cw_yX1_init⟩, ⟨by decide, by decide, by decide +kernel⟩, rfl⟩
theorem ml_X1_3 : Cond.methodLink RX1 3 objectInit ∈ lw_tbl := tb_at 62 (by decide +kernel)
theorem cs_X6_38 : qcI RX6 38 yX5_init cX5_init 1 0 := ⟨⟨tb_at 76 (by decide +kernel), im_yX5_init, wi_X5, cw_yX5_init⟩, ⟨by decide, by decide, by decide +kernel⟩, rfl⟩
theorem ml_X5_3 : Cond.methodLink RX5 3 objectInit ∈ lw_tbl := tb_at 79 (by decide +kernel)
theorem cs_L_13 : qcV RL 13 yX7_account cX7_account 5 ((some .int)) 2 := ⟨⟨tb_at 171 (by decide +kernel), im_yX7_account, se_yX7_account, wi_X7, cw_yX7_account⟩, ⟨by decide, by decide, by decide +kernel⟩⟩
theorem cs_X7_43 : qcV RX7 43 yX7_tenantAt cX7_tenantAt 2 ((some (.object "QuotaMeter$Tenant"))) 1 := ⟨⟨tb_at 175 (by decide +kernel), im_yX7_tenantAt, se_yX7_tenantAt, wi_X7, cw_yX7_tenantAt⟩, ⟨by decide, by decide, by decide +kernel⟩⟩
theorem cs_X7_47 : qcV RX7 47 yX7_accountAt cX7_accountAt 2 ((some (.object "QuotaMeter$Account"))) 1 := ⟨⟨tb_at 179 (by decide +kernel), im_yX7_accountAt, se_yX7_accountAt, wi_X7, cw_yX7_accountAt⟩, ⟨by decide, by decide, by decide +kernel⟩⟩
theorem cs_X7_62 : qcI RX7 62 yX0_init cX0_init 5 3 := ⟨⟨tb_at 184 (by decide +kernel), im_yX0_init, wi_X0, cw_yX0_init⟩, ⟨by decide, by decide, by decide +kernel⟩, rfl⟩
theorem ml_X0_3 : Cond.methodLink RX0 3 objectInit ∈ lw_tbl := tb_at 187 (by decide +kernel)
theorem cs_L_18 : qcV RL 18 yX7_tick cX7_tick 2 ((some .int)) 1 := ⟨⟨tb_at 215 (by decide +kernel), im_yX7_tick, se_yX7_tick, wi_X7, cw_yX7_tick⟩, ⟨by decide, by decide, by decide +kernel⟩⟩
theorem cs_X7_69 : qcV RX7 69 yX4_forgetOld cX4_forgetOld 4 none 1 := ⟨⟨tb_at 220 (by decide +kernel), im_yX4_forgetOld, se_yX4_forgetOld, wi_X4, cw_yX4_forgetOld⟩, ⟨by decide, by decide, by decide +kernel⟩⟩
theorem cs_X7_72 : qcV RX7 72 yX7_endOldHolds cX7_endOldHolds 3 none 0 := ⟨⟨tb_at 224 (by decide +kernel), im_yX7_endOldHolds, se_yX7_endOldHolds, wi_X7, cw_yX7_endOldHolds⟩, ⟨by decide, by decide, by decide +kernel⟩⟩
theorem cs_X7_116 : qcV RX7 116 yX7_openHoldAt cX7_openHoldAt 3 ((some (.object "QuotaMeter$Hold"))) 1 := ⟨⟨tb_at 228 (by decide +kernel), im_yX7_openHoldAt, se_yX7_openHoldAt, wi_X7, cw_yX7_openHoldAt⟩, ⟨by decide, by decide, by decide +kernel⟩⟩
theorem cs_X7_233 : qcV RX7 233 yX7_holdAt cX7_holdAt 2 ((some (.object "QuotaMeter$Hold"))) 1 := ⟨⟨tb_at 232 (by decide +kernel), im_yX7_holdAt, se_yX7_holdAt, wi_X7, cw_yX7_holdAt⟩, ⟨by decide, by decide, by decide +kernel⟩⟩
theorem cs_X7_135 : qcV RX7 135 yX7_endHold cX7_endHold 2 none 1 := ⟨⟨tb_at 236 (by decide +kernel), im_yX7_endHold, se_yX7_endHold, wi_X7, cw_yX7_endHold⟩, ⟨by decide, by decide, by decide +kernel⟩⟩
theorem cs_X7_112 : qcV RX7 112 yX0_addHeld cX0_addHeld 4 none 2 := ⟨⟨tb_at 240 (by decide +kernel), im_yX0_addHeld, se_yX0_addHeld, wi_X0, cw_yX0_addHeld⟩, ⟨by decide, by decide, by decide +kernel⟩⟩
theorem cs_L_25 : qcV RL 25 yX7_event cX7_event 8 ((some .int)) 5 := ⟨⟨tb_at 244 (by decide +kernel), im_yX7_event, se_yX7_event, wi_X7, cw_yX7_event⟩, ⟨by decide, by decide, by decide +kernel⟩⟩
theorem cs_X7_75 : qcS RX7 75 yX7_isResource cX7_isResource 1 ((some .boolean)) 1 := ⟨⟨tb_at 248 (by decide +kernel), sm_yX7_isResource, wi_X7, cw_yX7_isResource⟩, ⟨by decide, by decide, by decide +kernel⟩⟩
theorem cs_X7_79 : qcS RX7 79 yX7_isUnits cX7_isUnits 1 ((some .boolean)) 1 := ⟨⟨tb_at 251 (by decide +kernel), sm_yX7_isUnits, wi_X7, cw_yX7_isUnits⟩, ⟨by decide, by decide, by decide +kernel⟩⟩
theorem cs_X7_82 : qcV RX7 82 yX4_knows cX4_knows 5 ((some .boolean)) 2 := ⟨⟨tb_at 255 (by decide +kernel), im_yX4_knows, se_yX4_knows, wi_X4, cw_yX4_knows⟩, ⟨by decide, by decide, by decide +kernel⟩⟩
theorem cs_X7_86 : qcV RX7 86 yX4_learn cX4_learn 5 ((some .boolean)) 3 := ⟨⟨tb_at 259 (by decide +kernel), im_yX4_learn, se_yX4_learn, wi_X4, cw_yX4_learn⟩, ⟨by decide, by decide, by decide +kernel⟩⟩
theorem cs_X7_90 : qcV RX7 90 yX7_countUnits cX7_countUnits 6 ((some .int)) 4 := ⟨⟨tb_at 263 (by decide +kernel), im_yX7_countUnits, se_yX7_countUnits, wi_X7, cw_yX7_countUnits⟩, ⟨by decide, by decide, by decide +kernel⟩⟩
theorem cs_X7_285 : qcV RX7 285 yX7_quantityOf cX7_quantityOf 8 ((some .long)) 3 := ⟨⟨tb_at 267 (by decide +kernel), im_yX7_quantityOf, se_yX7_quantityOf, wi_X7, cw_yX7_quantityOf⟩, ⟨by decide, by decide, by decide +kernel⟩⟩
theorem cs_X7_289 : qcV RX7 289 yX6_adjust cX6_adjust 6 none 3 := ⟨⟨tb_at 271 (by decide +kernel), im_yX6_adjust, se_yX6_adjust, wi_X6, cw_yX6_adjust⟩, ⟨by decide, by decide, by decide +kernel⟩⟩
theorem cs_X6_39 : qcV RX6 39 yX5_costOf cX5_costOf 3 ((some .long)) 1 := ⟨⟨tb_at 275 (by decide +kernel), im_yX5_costOf, se_yX5_costOf, wi_X5, cw_yX5_costOf⟩, ⟨by decide, by decide, by decide +kernel⟩⟩
theorem cs_X5_42 : qcV RX5 42 yX5_costAtLastTier cX5_costAtLastTier 4 ((some .long)) 1 := ⟨⟨tb_at 279 (by decide +kernel), im_yX5_costAtLastTier, se_yX5_costAtLastTier, wi_X5, cw_yX5_costAtLastTier⟩, ⟨by decide, by decide, by decide +kernel⟩⟩
theorem cs_X5_46 : qcV RX5 46 yX5_costByTiers cX5_costByTiers 10 ((some .long)) 1 := ⟨⟨tb_at 283 (by decide +kernel), im_yX5_costByTiers, se_yX5_costByTiers, wi_X5, cw_yX5_costByTiers⟩, ⟨by decide, by decide, by decide +kernel⟩⟩
theorem cs_X5_49 : qcS RX5 49 yJ9_min_f86c9 cJ9_min_f86c9 4 ((some .long)) 2 := ⟨⟨tb_at 287 (by decide +kernel), sm_yJ9_min_f86c9, wi_J9, cw_yJ9_min_f86c9⟩, ⟨by decide, by decide, by decide +kernel⟩⟩
theorem cs_X5_53 : qcV RX5 53 yX5_pricedParts cX5_pricedParts 3 ((some .long)) 1 := ⟨⟨tb_at 290 (by decide +kernel), im_yX5_pricedParts, se_yX5_pricedParts, wi_X5, cw_yX5_pricedParts⟩, ⟨by decide, by decide, by decide +kernel⟩⟩
theorem cs_X7_293 : qcV RX7 293 yX0_addUsed cX0_addUsed 5 none 3 := ⟨⟨tb_at 294 (by decide +kernel), im_yX0_addUsed, se_yX0_addUsed, wi_X0, cw_yX0_addUsed⟩, ⟨by decide, by decide, by decide +kernel⟩⟩
theorem cs_L_30 : qcV RL 30 yX7_limit cX7_limit 5 ((some .int)) 3 := ⟨⟨tb_at 298 (by decide +kernel), im_yX7_limit, se_yX7_limit, wi_X7, cw_yX7_limit⟩, ⟨by decide, by decide, by decide +kernel⟩⟩
theorem cs_L_35 : qcV RL 35 yX7_request cX7_request 5 ((some .int)) 3 := ⟨⟨tb_at 303 (by decide +kernel), im_yX7_request, se_yX7_request, wi_X7, cw_yX7_request⟩, ⟨by decide, by decide, by decide +kernel⟩⟩
theorem cs_X7_105 : qcV RX7 105 yX0_freeUnits cX0_freeUnits 6 ((some .int)) 2 := ⟨⟨tb_at 307 (by decide +kernel), im_yX0_freeUnits, se_yX0_freeUnits, wi_X0, cw_yX0_freeUnits⟩, ⟨by decide, by decide, by decide +kernel⟩⟩
theorem cs_X0_37 : qcS RX0 37 yJ9_min_f86c9 cJ9_min_f86c9 4 ((some .long)) 2 := ⟨⟨tb_at 312 (by decide +kernel), sm_yJ9_min_f86c9, wi_J9, cw_yJ9_min_f86c9⟩, ⟨by decide, by decide, by decide +kernel⟩⟩
theorem cs_X0_43 : qcS RX0 43 yJ9_max_f86c9 cJ9_max_f86c9 4 ((some .long)) 2 := ⟨⟨tb_at 313 (by decide +kernel), sm_yJ9_max_f86c9, wi_J9, cw_yJ9_max_f86c9⟩, ⟨by decide, by decide, by decide +kernel⟩⟩
theorem cs_X7_109 : qcI RX7 109 yX2_init cX2_init 5 4 := ⟨⟨tb_at 317 (by decide +kernel), im_yX2_init, wi_X2, cw_yX2_init⟩, ⟨by decide, by decide, by decide +kernel⟩, rfl⟩
theorem ml_X2_1 : Cond.methodLink RX2 1 objectInit ∈ lw_tbl := tb_at 320 (by decide +kernel)
theorem cs_L_39 : qcV RL 39 yX7_settle cX7_settle 7 ((some .int)) 3 := ⟨⟨tb_at 342 (by decide +kernel), im_yX7_settle, se_yX7_settle, wi_X7, cw_yX7_settle⟩, ⟨by decide, by decide, by decide +kernel⟩⟩
theorem cs_X7_131 : qcV RX7 131 yX7_event cX7_event 8 ((some .int)) 5 := ⟨⟨tb_at 346 (by decide +kernel), im_yX7_event, se_yX7_event, wi_X7, cw_yX7_event⟩, ⟨by decide, by decide, by decide +kernel⟩⟩
theorem cs_L_44 : qcV RL 44 yX7_drop cX7_drop 3 ((some .int)) 1 := ⟨⟨tb_at 347 (by decide +kernel), im_yX7_drop, se_yX7_drop, wi_X7, cw_yX7_drop⟩, ⟨by decide, by decide, by decide +kernel⟩⟩
theorem cs_L_48 : qcV RL 48 yX7_mode cX7_mode 6 ((some .int)) 4 := ⟨⟨tb_at 351 (by decide +kernel), im_yX7_mode, se_yX7_mode, wi_X7, cw_yX7_mode⟩, ⟨by decide, by decide, by decide +kernel⟩⟩
theorem cs_X7_139 : qcV RX7 139 yX7_pricesAt cX7_pricesAt 4 ((some (.object "QuotaMeter$Prices"))) 2 := ⟨⟨tb_at 355 (by decide +kernel), im_yX7_pricesAt, se_yX7_pricesAt, wi_X7, cw_yX7_pricesAt⟩, ⟨by decide, by decide, by decide +kernel⟩⟩
theorem cs_L_53 : qcV RL 53 yX7_tier cX7_tier 9 ((some .int)) 6 := ⟨⟨tb_at 360 (by decide +kernel), im_yX7_tier, se_yX7_tier, wi_X7, cw_yX7_tier⟩, ⟨by decide, by decide, by decide +kernel⟩⟩
theorem cs_X7_155 : qcV RX7 155 yX5_putTier cX5_putTier 7 ((some .boolean)) 4 := ⟨⟨tb_at 365 (by decide +kernel), im_yX5_putTier, se_yX5_putTier, wi_X5, cw_yX5_putTier⟩, ⟨by decide, by decide, by decide +kernel⟩⟩
theorem cs_X5_32 : qcS RX5 32 yJ9_max_7cf53 cJ9_max_7cf53 2 ((some .int)) 2 := ⟨⟨tb_at 369 (by decide +kernel), sm_yJ9_max_7cf53, wi_J9, cw_yJ9_max_7cf53⟩, ⟨by decide, by decide, by decide +kernel⟩⟩
theorem cs_X5_38 : qcV RX5 38 yX5_wouldRise cX5_wouldRise 10 ((some .boolean)) 3 := ⟨⟨tb_at 372 (by decide +kernel), im_yX5_wouldRise, se_yX5_wouldRise, wi_X5, cw_yX5_wouldRise⟩, ⟨by decide, by decide, by decide +kernel⟩⟩
theorem cs_L_58 : qcV RL 58 yX7_tiers cX7_tiers 5 ((some .int)) 3 := ⟨⟨tb_at 376 (by decide +kernel), im_yX7_tiers, se_yX7_tiers, wi_X7, cw_yX7_tiers⟩, ⟨by decide, by decide, by decide +kernel⟩⟩
theorem cs_X7_162 : qcS RX7 162 yJ9_min_7cf53 cJ9_min_7cf53 2 ((some .int)) 2 := ⟨⟨tb_at 380 (by decide +kernel), sm_yJ9_min_7cf53, wi_J9, cw_yJ9_min_7cf53⟩, ⟨by decide, by decide, by decide +kernel⟩⟩
theorem cs_L_62 : qcV RL 62 yX7_cost cX7_cost 6 ((some .long)) 3 := ⟨⟨tb_at 383 (by decide +kernel), im_yX7_cost, se_yX7_cost, wi_X7, cw_yX7_cost⟩, ⟨by decide, by decide, by decide +kernel⟩⟩
theorem cs_X7_169 : qcV RX7 169 yX5_costOf cX5_costOf 3 ((some .long)) 1 := ⟨⟨tb_at 388 (by decide +kernel), im_yX5_costOf, se_yX5_costOf, wi_X5, cw_yX5_costOf⟩, ⟨by decide, by decide, by decide +kernel⟩⟩
theorem cs_L_67 : qcV RL 67 yX7_terms cX7_terms 7 ((some .int)) 4 := ⟨⟨tb_at 389 (by decide +kernel), im_yX7_terms, se_yX7_terms, wi_X7, cw_yX7_terms⟩, ⟨by decide, by decide, by decide +kernel⟩⟩
theorem cs_X7_173 : qcS RX7 173 yX7_isRate cX7_isRate 1 ((some .boolean)) 1 := ⟨⟨tb_at 393 (by decide +kernel), sm_yX7_isRate, wi_X7, cw_yX7_isRate⟩, ⟨by decide, by decide, by decide +kernel⟩⟩
theorem cs_L_72 : qcV RL 72 yX7_credit cX7_credit 6 ((some .int)) 3 := ⟨⟨tb_at 397 (by decide +kernel), im_yX7_credit, se_yX7_credit, wi_X7, cw_yX7_credit⟩, ⟨by decide, by decide, by decide +kernel⟩⟩
theorem cs_X7_188 : qcS RX7 188 yX7_isPeriod cX7_isPeriod 1 ((some .boolean)) 1 := ⟨⟨tb_at 401 (by decide +kernel), sm_yX7_isPeriod, wi_X7, cw_yX7_isPeriod⟩, ⟨by decide, by decide, by decide +kernel⟩⟩
theorem cs_X7_198 : qcV RX7 198 yX1_give cX1_give 4 ((some .int)) 2 := ⟨⟨tb_at 404 (by decide +kernel), im_yX1_give, se_yX1_give, wi_X1, cw_yX1_give⟩, ⟨by decide, by decide, by decide +kernel⟩⟩
theorem cs_X1_23 : qcV RX1 23 yX1_countLasting cX1_countLasting 3 ((some .int)) 0 := ⟨⟨tb_at 408 (by decide +kernel), im_yX1_countLasting, se_yX1_countLasting, wi_X1, cw_yX1_countLasting⟩, ⟨by decide, by decide, by decide +kernel⟩⟩
theorem cs_L_77 : qcV RL 77 yX7_close cX7_close 4 ((some .int)) 1 := ⟨⟨tb_at 412 (by decide +kernel), im_yX7_close, se_yX7_close, wi_X7, cw_yX7_close⟩, ⟨by decide, by decide, by decide +kernel⟩⟩
theorem cs_X7_207 : qcI RX7 207 yX3_init cX3_init 3 2 := ⟨⟨tb_at 417 (by decide +kernel), im_yX3_init, wi_X3, cw_yX3_init⟩, ⟨by decide, by decide, by decide +kernel⟩, rfl⟩
theorem ml_X3_3 : Cond.methodLink RX3 3 objectInit ∈ lw_tbl := tb_at 420 (by decide +kernel)
theorem cs_X7_209 : qcV RX7 209 yX7_billUsage cX7_billUsage 6 none 2 := ⟨⟨tb_at 456 (by decide +kernel), im_yX7_billUsage, se_yX7_billUsage, wi_X7, cw_yX7_billUsage⟩, ⟨by decide, by decide, by decide +kernel⟩⟩
theorem cs_X7_300 : qcV RX7 300 yX3_add cX3_add 7 none 4 := ⟨⟨tb_at 460 (by decide +kernel), im_yX3_add, se_yX3_add, wi_X3, cw_yX3_add⟩, ⟨by decide, by decide, by decide +kernel⟩⟩
theorem cs_X7_213 : qcV RX7 213 yX6_billAdjustments cX6_billAdjustments 3 none 1 := ⟨⟨tb_at 464 (by decide +kernel), im_yX6_billAdjustments, se_yX6_billAdjustments, wi_X6, cw_yX6_billAdjustments⟩, ⟨by decide, by decide, by decide +kernel⟩⟩
theorem cs_X6_43 : qcV RX6 43 yX3_add cX3_add 7 none 4 := ⟨⟨tb_at 468 (by decide +kernel), im_yX3_add, se_yX3_add, wi_X3, cw_yX3_add⟩, ⟨by decide, by decide, by decide +kernel⟩⟩
theorem cs_X7_217 : qcV RX7 217 yX6_billTerms cX6_billTerms 2 none 1 := ⟨⟨tb_at 469 (by decide +kernel), im_yX6_billTerms, se_yX6_billTerms, wi_X6, cw_yX6_billTerms⟩, ⟨by decide, by decide, by decide +kernel⟩⟩
theorem cs_X6_52 : qcV RX6 52 yX3_partOfSum cX3_partOfSum 9 ((some .long)) 1 := ⟨⟨tb_at 473 (by decide +kernel), im_yX3_partOfSum, se_yX3_partOfSum, wi_X3, cw_yX3_partOfSum⟩, ⟨by decide, by decide, by decide +kernel⟩⟩
theorem cs_X3_45 : qcS RX3 45 yJ9_floorMod_f86c9 cJ9_floorMod_f86c9 6 ((some .long)) 2 := ⟨⟨tb_at 478 (by decide +kernel), sm_yJ9_floorMod_f86c9, wi_J9, cw_yJ9_floorMod_f86c9⟩, ⟨by decide, by decide, by decide +kernel⟩⟩
theorem cs_X3_51 : qcS RX3 51 yJ9_floorDiv_f86c9 cJ9_floorDiv_f86c9 6 ((some .long)) 2 := ⟨⟨tb_at 481 (by decide +kernel), sm_yJ9_floorDiv_f86c9, wi_J9, cw_yJ9_floorDiv_f86c9⟩, ⟨by decide, by decide, by decide +kernel⟩⟩
theorem cs_X6_56 : qcV RX6 56 yX3_addSome cX3_addSome 4 none 2 := ⟨⟨tb_at 485 (by decide +kernel), im_yX3_addSome, se_yX3_addSome, wi_X3, cw_yX3_addSome⟩, ⟨by decide, by decide, by decide +kernel⟩⟩
theorem cs_X3_39 : qcV RX3 39 yX3_add cX3_add 7 none 4 := ⟨⟨tb_at 489 (by decide +kernel), im_yX3_add, se_yX3_add, wi_X3, cw_yX3_add⟩, ⟨by decide, by decide, by decide +kernel⟩⟩
theorem cs_X6_67 : qcS RX6 67 yJ9_max_f86c9 cJ9_max_f86c9 4 ((some .long)) 2 := ⟨⟨tb_at 490 (by decide +kernel), sm_yJ9_max_f86c9, wi_J9, cw_yJ9_max_f86c9⟩, ⟨by decide, by decide, by decide +kernel⟩⟩
theorem cs_X7_220 : qcV RX7 220 yX1_payFor cX1_payFor 6 none 1 := ⟨⟨tb_at 491 (by decide +kernel), im_yX1_payFor, se_yX1_payFor, wi_X1, cw_yX1_payFor⟩, ⟨by decide, by decide, by decide +kernel⟩⟩
theorem cs_X1_33 : qcV RX1 33 yX1_nextToUse cX1_nextToUse 3 ((some .int)) 0 := ⟨⟨tb_at 495 (by decide +kernel), im_yX1_nextToUse, se_yX1_nextToUse, wi_X1, cw_yX1_nextToUse⟩, ⟨by decide, by decide, by decide +kernel⟩⟩
theorem cs_X1_36 : qcS RX1 36 yJ9_min_f86c9 cJ9_min_f86c9 4 ((some .long)) 2 := ⟨⟨tb_at 499 (by decide +kernel), sm_yJ9_min_f86c9, wi_J9, cw_yJ9_min_f86c9⟩, ⟨by decide, by decide, by decide +kernel⟩⟩
theorem cs_X1_42 : qcV RX1 42 yX3_addSome cX3_addSome 4 none 2 := ⟨⟨tb_at 500 (by decide +kernel), im_yX3_addSome, se_yX3_addSome, wi_X3, cw_yX3_addSome⟩, ⟨by decide, by decide, by decide +kernel⟩⟩
theorem cs_X7_223 : qcV RX7 223 yX6_endPeriod cX6_endPeriod 2 none 0 := ⟨⟨tb_at 501 (by decide +kernel), im_yX6_endPeriod, se_yX6_endPeriod, wi_X6, cw_yX6_endPeriod⟩, ⟨by decide, by decide, by decide +kernel⟩⟩
theorem cs_X6_76 : qcV RX6 76 yX5_copyFrom cX5_copyFrom 3 none 1 := ⟨⟨tb_at 505 (by decide +kernel), im_yX5_copyFrom, se_yX5_copyFrom, wi_X5, cw_yX5_copyFrom⟩, ⟨by decide, by decide, by decide +kernel⟩⟩
theorem cs_X6_83 : qcV RX6 83 yX1_endIn cX1_endIn 3 none 1 := ⟨⟨tb_at 509 (by decide +kernel), im_yX1_endIn, se_yX1_endIn, wi_X1, cw_yX1_endIn⟩, ⟨by decide, by decide, by decide +kernel⟩⟩
theorem cs_L_81 : qcV RL 81 yX7_used cX7_used 5 ((some .long)) 3 := ⟨⟨tb_at 513 (by decide +kernel), im_yX7_used, se_yX7_used, wi_X7, cw_yX7_used⟩, ⟨by decide, by decide, by decide +kernel⟩⟩
theorem cs_L_86 : qcV RL 86 yX7_held cX7_held 4 ((some .int)) 2 := ⟨⟨tb_at 517 (by decide +kernel), im_yX7_held, se_yX7_held, wi_X7, cw_yX7_held⟩, ⟨by decide, by decide, by decide +kernel⟩⟩
theorem cs_L_90 : qcV RL 90 yX7_room cX7_room 4 ((some .int)) 2 := ⟨⟨tb_at 521 (by decide +kernel), im_yX7_room, se_yX7_room, wi_X7, cw_yX7_room⟩, ⟨by decide, by decide, by decide +kernel⟩⟩
theorem cs_L_94 : qcV RL 94 yX7_hold cX7_hold 4 ((some .int)) 2 := ⟨⟨tb_at 525 (by decide +kernel), im_yX7_hold, se_yX7_hold, wi_X7, cw_yX7_hold⟩, ⟨by decide, by decide, by decide +kernel⟩⟩
theorem cs_L_98 : qcV RL 98 yX7_line cX7_line 5 ((some .long)) 3 := ⟨⟨tb_at 529 (by decide +kernel), im_yX7_line, se_yX7_line, wi_X7, cw_yX7_line⟩, ⟨by decide, by decide, by decide +kernel⟩⟩
theorem cs_X7_243 : qcV RX7 243 yX7_invoiceAt cX7_invoiceAt 2 ((some (.object "QuotaMeter$Invoice"))) 1 := ⟨⟨tb_at 533 (by decide +kernel), im_yX7_invoiceAt, se_yX7_invoiceAt, wi_X7, cw_yX7_invoiceAt⟩, ⟨by decide, by decide, by decide +kernel⟩⟩
theorem cs_L_102 : qcV RL 102 yX7_invoice cX7_invoice 4 ((some .long)) 2 := ⟨⟨tb_at 537 (by decide +kernel), im_yX7_invoice, se_yX7_invoice, wi_X7, cw_yX7_invoice⟩, ⟨by decide, by decide, by decide +kernel⟩⟩
theorem cs_L_107 : qcV RL 107 yX7_left cX7_left 4 ((some .long)) 2 := ⟨⟨tb_at 541 (by decide +kernel), im_yX7_left, se_yX7_left, wi_X7, cw_yX7_left⟩, ⟨by decide, by decide, by decide +kernel⟩⟩
theorem cs_L_111 : qcV RL 111 yX7_count cX7_count 2 ((some .int)) 1 := ⟨⟨tb_at 545 (by decide +kernel), im_yX7_count, se_yX7_count, wi_X7, cw_yX7_count⟩, ⟨by decide, by decide, by decide +kernel⟩⟩
theorem cs_L_115 : qcV RL 115 yX7_closed cX7_closed 3 ((some .int)) 1 := ⟨⟨tb_at 549 (by decide +kernel), im_yX7_closed, se_yX7_closed, wi_X7, cw_yX7_closed⟩, ⟨by decide, by decide, by decide +kernel⟩⟩
theorem cs_L_17 : qcV RL 17 yX8_account cX8_account 4 ((some .int)) 2 := ⟨⟨tb_at 553 (by decide +kernel), im_yX8_account, se_yX8_account, wi_X8, cw_yX8_account⟩, ⟨by decide, by decide, by decide +kernel⟩⟩
theorem cs_X8_7 : qcS RX8 7 yX8_isTenant cX8_isTenant 1 ((some .boolean)) 1 := ⟨⟨tb_at 557 (by decide +kernel), sm_yX8_isTenant, wi_X8, cw_yX8_isTenant⟩, ⟨by decide, by decide, by decide +kernel⟩⟩
theorem cs_X8_11 : qcV RX8 11 yX8_isAccount cX8_isAccount 2 ((some .boolean)) 1 := ⟨⟨tb_at 560 (by decide +kernel), im_yX8_isAccount, se_yX8_isAccount, wi_X8, cw_yX8_isAccount⟩, ⟨by decide, by decide, by decide +kernel⟩⟩
theorem cs_L_22 : qcV RL 22 yX8_tick cX8_tick 2 ((some .int)) 1 := ⟨⟨tb_at 565 (by decide +kernel), im_yX8_tick, se_yX8_tick, wi_X8, cw_yX8_tick⟩, ⟨by decide, by decide, by decide +kernel⟩⟩
theorem cs_L_34 : qcV RL 34 yX8_limit cX8_limit 4 ((some .int)) 3 := ⟨⟨tb_at 570 (by decide +kernel), im_yX8_limit, se_yX8_limit, wi_X8, cw_yX8_limit⟩, ⟨by decide, by decide, by decide +kernel⟩⟩
theorem cs_X8_28 : qcS RX8 28 yX8_isResource cX8_isResource 1 ((some .boolean)) 1 := ⟨⟨tb_at 574 (by decide +kernel), sm_yX8_isResource, wi_X8, cw_yX8_isResource⟩, ⟨by decide, by decide, by decide +kernel⟩⟩
theorem cs_L_29 : qcV RL 29 yX8_event cX8_event 7 ((some .int)) 5 := ⟨⟨tb_at 578 (by decide +kernel), im_yX8_event, se_yX8_event, wi_X8, cw_yX8_event⟩, ⟨by decide, by decide, by decide +kernel⟩⟩
theorem cs_X8_64 : qcS RX8 64 yX8_areUnits cX8_areUnits 1 ((some .boolean)) 1 := ⟨⟨tb_at 582 (by decide +kernel), sm_yX8_areUnits, wi_X8, cw_yX8_areUnits⟩, ⟨by decide, by decide, by decide +kernel⟩⟩
theorem cs_X8_67 : qcV RX8 67 yX8_come cX8_come 10 ((some .int)) 5 := ⟨⟨tb_at 586 (by decide +kernel), im_yX8_come, se_yX8_come, wi_X8, cw_yX8_come⟩, ⟨by decide, by decide, by decide +kernel⟩⟩
theorem cs_X8_45 : qcV RX8 45 yX8_forget cX8_forget 3 none 0 := ⟨⟨tb_at 590 (by decide +kernel), im_yX8_forget, se_yX8_forget, wi_X8, cw_yX8_forget⟩, ⟨by decide, by decide, by decide +kernel⟩⟩
theorem cs_X8_52 : qcV RX8 52 yX8_adjust cX8_adjust 9 none 4 := ⟨⟨tb_at 594 (by decide +kernel), im_yX8_adjust, se_yX8_adjust, wi_X8, cw_yX8_adjust⟩, ⟨by decide, by decide, by decide +kernel⟩⟩
theorem cs_X8_190 : qcV RX8 190 yX8_invoiceOf cX8_invoiceOf 4 ((some .int)) 2 := ⟨⟨tb_at 598 (by decide +kernel), im_yX8_invoiceOf, se_yX8_invoiceOf, wi_X8, cw_yX8_invoiceOf⟩, ⟨by decide, by decide, by decide +kernel⟩⟩
theorem cs_X8_193 : qcV RX8 193 yX8_quantity cX8_quantity 7 ((some .long)) 3 := ⟨⟨tb_at 602 (by decide +kernel), im_yX8_quantity, se_yX8_quantity, wi_X8, cw_yX8_quantity⟩, ⟨by decide, by decide, by decide +kernel⟩⟩
theorem cs_X8_59 : qcS RX8 59 yX8_cell cX8_cell 3 ((some .int)) 3 := ⟨⟨tb_at 606 (by decide +kernel), sm_yX8_cell, wi_X8, cw_yX8_cell⟩, ⟨by decide, by decide, by decide +kernel⟩⟩
theorem cs_X8_179 : qcV RX8 179 yX8_costOf cX8_costOf 20 ((some .long)) 2 := ⟨⟨tb_at 609 (by decide +kernel), im_yX8_costOf, se_yX8_costOf, wi_X8, cw_yX8_costOf⟩, ⟨by decide, by decide, by decide +kernel⟩⟩
theorem cs_X8_109 : qcS RX8 109 yJ9_min_f86c9 cJ9_min_f86c9 4 ((some .long)) 2 := ⟨⟨tb_at 613 (by decide +kernel), sm_yJ9_min_f86c9, wi_J9, cw_yJ9_min_f86c9⟩, ⟨by decide, by decide, by decide +kernel⟩⟩
theorem cs_L_85 : qcV RL 85 yX8_used cX8_used 4 ((some .long)) 3 := ⟨⟨tb_at 615 (by decide +kernel), im_yX8_used, se_yX8_used, wi_X8, cw_yX8_used⟩, ⟨by decide, by decide, by decide +kernel⟩⟩
theorem cs_X8_71 : qcV RX8 71 yX8_usedOf cX8_usedOf 7 ((some .long)) 3 := ⟨⟨tb_at 619 (by decide +kernel), im_yX8_usedOf, se_yX8_usedOf, wi_X8, cw_yX8_usedOf⟩, ⟨by decide, by decide, by decide +kernel⟩⟩
theorem cs_X8_77 : qcV RX8 77 yX8_lies cX8_lies 4 ((some .boolean)) 2 := ⟨⟨tb_at 623 (by decide +kernel), im_yX8_lies, se_yX8_lies, wi_X8, cw_yX8_lies⟩, ⟨by decide, by decide, by decide +kernel⟩⟩
theorem cs_L_89 : qcV RL 89 yX8_held cX8_held 3 ((some .int)) 2 := ⟨⟨tb_at 628 (by decide +kernel), im_yX8_held, se_yX8_held, wi_X8, cw_yX8_held⟩, ⟨by decide, by decide, by decide +kernel⟩⟩
theorem cs_X8_94 : qcV RX8 94 yX8_heldOf cX8_heldOf 5 ((some .int)) 2 := ⟨⟨tb_at 632 (by decide +kernel), im_yX8_heldOf, se_yX8_heldOf, wi_X8, cw_yX8_heldOf⟩, ⟨by decide, by decide, by decide +kernel⟩⟩
theorem cs_X8_91 : qcV RX8 91 yX8_isOpen cX8_isOpen 2 ((some .boolean)) 1 := ⟨⟨tb_at 636 (by decide +kernel), im_yX8_isOpen, se_yX8_isOpen, wi_X8, cw_yX8_isOpen⟩, ⟨by decide, by decide, by decide +kernel⟩⟩
theorem cs_L_93 : qcV RL 93 yX8_room cX8_room 3 ((some .int)) 2 := ⟨⟨tb_at 640 (by decide +kernel), im_yX8_room, se_yX8_room, wi_X8, cw_yX8_room⟩, ⟨by decide, by decide, by decide +kernel⟩⟩
theorem cs_X8_115 : qcV RX8 115 yX8_roomOf cX8_roomOf 6 ((some .long)) 2 := ⟨⟨tb_at 644 (by decide +kernel), im_yX8_roomOf, se_yX8_roomOf, wi_X8, cw_yX8_roomOf⟩, ⟨by decide, by decide, by decide +kernel⟩⟩
theorem cs_X8_119 : qcS RX8 119 yJ9_max_f86c9 cJ9_max_f86c9 4 ((some .long)) 2 := ⟨⟨tb_at 649 (by decide +kernel), sm_yJ9_max_f86c9, wi_J9, cw_yJ9_max_f86c9⟩, ⟨by decide, by decide, by decide +kernel⟩⟩
theorem cs_L_38 : qcV RL 38 yX8_request cX8_request 4 ((some .int)) 3 := ⟨⟨tb_at 650 (by decide +kernel), im_yX8_request, se_yX8_request, wi_X8, cw_yX8_request⟩, ⟨by decide, by decide, by decide +kernel⟩⟩
theorem cs_X8_122 : qcV RX8 122 yX8_open cX8_open 3 ((some .int)) 0 := ⟨⟨tb_at 654 (by decide +kernel), im_yX8_open, se_yX8_open, wi_X8, cw_yX8_open⟩, ⟨by decide, by decide, by decide +kernel⟩⟩
theorem cs_L_43 : qcV RL 43 yX8_settle cX8_settle 6 ((some .int)) 3 := ⟨⟨tb_at 658 (by decide +kernel), im_yX8_settle, se_yX8_settle, wi_X8, cw_yX8_settle⟩, ⟨by decide, by decide, by decide +kernel⟩⟩
theorem cs_L_47 : qcV RL 47 yX8_drop cX8_drop 2 ((some .int)) 1 := ⟨⟨tb_at 662 (by decide +kernel), im_yX8_drop, se_yX8_drop, wi_X8, cw_yX8_drop⟩, ⟨by decide, by decide, by decide +kernel⟩⟩
theorem cs_L_97 : qcV RL 97 yX8_hold cX8_hold 3 ((some .int)) 2 := ⟨⟨tb_at 666 (by decide +kernel), im_yX8_hold, se_yX8_hold, wi_X8, cw_yX8_hold⟩, ⟨by decide, by decide, by decide +kernel⟩⟩
theorem cs_L_12 : qcI RL 12 yX8_init cX8_init 2 0 := ⟨⟨tb_at 671 (by decide +kernel), im_yX8_init, wi_X8, cw_yX8_init⟩, ⟨by decide, by decide, by decide +kernel⟩, rfl⟩
theorem ml_X8_126 : Cond.methodLink RX8 126 objectInit ∈ lw_tbl := tb_at 674 (by decide +kernel)
theorem cs_L_52 : qcV RL 52 yX8_mode cX8_mode 5 ((some .int)) 4 := ⟨⟨tb_at 773 (by decide +kernel), im_yX8_mode, se_yX8_mode, wi_X8, cw_yX8_mode⟩, ⟨by decide, by decide, by decide +kernel⟩⟩
theorem cs_X8_174 : qcS RX8 174 yX8_row cX8_row 2 ((some .int)) 2 := ⟨⟨tb_at 778 (by decide +kernel), sm_yX8_row, wi_X8, cw_yX8_row⟩, ⟨by decide, by decide, by decide +kernel⟩⟩
theorem cs_L_57 : qcV RL 57 yX8_tier cX8_tier 17 ((some .int)) 6 := ⟨⟨tb_at 781 (by decide +kernel), im_yX8_tier, se_yX8_tier, wi_X8, cw_yX8_tier⟩, ⟨by decide, by decide, by decide +kernel⟩⟩
theorem cs_L_61 : qcV RL 61 yX8_tiers cX8_tiers 5 ((some .int)) 3 := ⟨⟨tb_at 786 (by decide +kernel), im_yX8_tiers, se_yX8_tiers, wi_X8, cw_yX8_tiers⟩, ⟨by decide, by decide, by decide +kernel⟩⟩
theorem cs_L_66 : qcV RL 66 yX8_cost cX8_cost 5 ((some .long)) 3 := ⟨⟨tb_at 790 (by decide +kernel), im_yX8_cost, se_yX8_cost, wi_X8, cw_yX8_cost⟩, ⟨by decide, by decide, by decide +kernel⟩⟩
theorem cs_L_71 : qcV RL 71 yX8_terms cX8_terms 6 ((some .int)) 4 := ⟨⟨tb_at 794 (by decide +kernel), im_yX8_terms, se_yX8_terms, wi_X8, cw_yX8_terms⟩, ⟨by decide, by decide, by decide +kernel⟩⟩
theorem cs_L_76 : qcV RL 76 yX8_credit cX8_credit 7 ((some .int)) 3 := ⟨⟨tb_at 799 (by decide +kernel), im_yX8_credit, se_yX8_credit, wi_X8, cw_yX8_credit⟩, ⟨by decide, by decide, by decide +kernel⟩⟩
theorem cs_X8_187 : qcV RX8 187 yX8_leftOf cX8_leftOf 4 ((some .long)) 2 := ⟨⟨tb_at 803 (by decide +kernel), im_yX8_leftOf, se_yX8_leftOf, wi_X8, cw_yX8_leftOf⟩, ⟨by decide, by decide, by decide +kernel⟩⟩
theorem cs_L_110 : qcV RL 110 yX8_left cX8_left 3 ((some .long)) 2 := ⟨⟨tb_at 807 (by decide +kernel), im_yX8_left, se_yX8_left, wi_X8, cw_yX8_left⟩, ⟨by decide, by decide, by decide +kernel⟩⟩
theorem cs_L_80 : qcV RL 80 yX8_close cX8_close 10 ((some .int)) 1 := ⟨⟨tb_at 811 (by decide +kernel), im_yX8_close, se_yX8_close, wi_X8, cw_yX8_close⟩, ⟨by decide, by decide, by decide +kernel⟩⟩
theorem ml_X8_209 : Cond.methodLink RX8 209 arraycopyName ∈ lw_tbl := tb_at 815 (by decide +kernel)
theorem cs_X8_215 : qcV RX8 215 yX8_line cX8_line 8 none 4 := ⟨⟨tb_at 818 (by decide +kernel), im_yX8_line, se_yX8_line, wi_X8, cw_yX8_line⟩, ⟨by decide, by decide, by decide +kernel⟩⟩
theorem cs_X8_219 : qcS RX8 219 yX8_part cX8_part 8 ((some .long)) 2 := ⟨⟨tb_at 822 (by decide +kernel), sm_yX8_part, wi_X8, cw_yX8_part⟩, ⟨by decide, by decide, by decide +kernel⟩⟩
theorem cs_X8_198 : qcS RX8 198 yJ9_floorDiv_f86c9 cJ9_floorDiv_f86c9 6 ((some .long)) 2 := ⟨⟨tb_at 826 (by decide +kernel), sm_yJ9_floorDiv_f86c9, wi_J9, cw_yJ9_floorDiv_f86c9⟩, ⟨by decide, by decide, by decide +kernel⟩⟩
theorem cs_X8_201 : qcS RX8 201 yJ9_floorMod_f86c9 cJ9_floorMod_f86c9 6 ((some .long)) 2 := ⟨⟨tb_at 827 (by decide +kernel), sm_yJ9_floorMod_f86c9, wi_J9, cw_yJ9_floorMod_f86c9⟩, ⟨by decide, by decide, by decide +kernel⟩⟩
theorem cs_X8_223 : qcV RX8 223 yX8_useCredits cX8_useCredits 11 none 3 := ⟨⟨tb_at 829 (by decide +kernel), im_yX8_useCredits, se_yX8_useCredits, wi_X8, cw_yX8_useCredits⟩, ⟨by decide, by decide, by decide +kernel⟩⟩
theorem cs_L_101 : qcV RL 101 yX8_line_ cX8_line_ 4 ((some .long)) 3 := ⟨⟨tb_at 833 (by decide +kernel), im_yX8_line_, se_yX8_line_, wi_X8, cw_yX8_line_⟩, ⟨by decide, by decide, by decide +kernel⟩⟩
theorem cs_L_106 : qcV RL 106 yX8_invoice cX8_invoice 6 ((some .long)) 2 := ⟨⟨tb_at 837 (by decide +kernel), im_yX8_invoice, se_yX8_invoice, wi_X8, cw_yX8_invoice⟩, ⟨by decide, by decide, by decide +kernel⟩⟩
theorem cs_L_114 : qcV RL 114 yX8_count cX8_count 2 ((some .int)) 1 := ⟨⟨tb_at 841 (by decide +kernel), im_yX8_count, se_yX8_count, wi_X8, cw_yX8_count⟩, ⟨by decide, by decide, by decide +kernel⟩⟩
theorem cs_L_118 : qcV RL 118 yX8_closed cX8_closed 2 ((some .int)) 1 := ⟨⟨tb_at 845 (by decide +kernel), im_yX8_closed, se_yX8_closed, wi_X8, cw_yX8_closed⟩, ⟨by decide, by decide, by decide +kernel⟩⟩
end
section
/-! Rows with the values named; numbers as naturals -/
section VM
variable {y : MethodName} {cc : ByteArray} {nL : Nat} {ret : Option FieldType} {R : Room} {mc ms : Nat} {n0 : Nat → Nat} {Post : Option qV → qH → Prop} {pc : Nat} {L : List (Nat × qV)} {st : List qV} {h : qH} {cells slots : Nat} {r i c k idx : Nat}
theorem V_getR (n : Nat) (c k : Nat) (hw : Cond.fieldLink y.cls idx (rg_T c k).1 (rg_T c k).2.1 (rg_T c k).2.2.1 ∈ lw_tbl) (hd : decode cc pc = .ok (.getfield idx, 3)) (hn : pc + 3 = n) (hk : rg_k r = .inl c) (hkN : k < rg_N c) (ht : (∃ t, rg_t c k = .object t) ∨ ∃ t, rg_t c k = .array t) (hr : r ≠ 0) {v : Option (Nat × Nat)} (hv : qg_r h r i k = v) (K : Vw y cc nL ret R mc ms n0 Post n L ((.inr (.inr v)) :: st) h cells slots) : Vw y cc nL ret R mc ms n0 Post pc L ((.inr (.inr (some (r, i)))) :: st) h cells slots := by
  subst hv
  rcases ht with ht | ht
  · exact V_geto n c k hw hd hn hk hkN ht hr K
  · exact V_geta n c k hw hd hn hk hkN ht hr K
theorem V_aaldR (n : Nat) {x : Int32} {ty : FieldType} (j : Nat) (hd : decode cc pc = .ok (.aaload, 1)) (hn : pc + 1 = n) (hk : rg_k r = .inr ty) (hty : (∃ t, ty = .object t) ∨ ∃ t, ty = .array t) (hr : r ≠ 0) (hx : x = nI j) (hj : j < rg_n r) (hm : rg_n r < 2 ^ 31) {v : Option (Nat × Nat)} (hv : qg_r h r i j = v) (K : Vw y cc nL ret R mc ms n0 Post n L ((.inr (.inr v)) :: st) h cells slots) : Vw y cc nL ret R mc ms n0 Post pc L (.inl x :: (.inr (.inr (some (r, i)))) :: st) h cells slots := by
  subst hv; subst hx
  refine V_aald n hd hn hk hty hr (vp_in_nI hj hm) ?_
  rw [nI_clamp (Nat.lt_trans hj hm)]
  exact K
theorem V_ialdN (n : Nat) {x : Int32} (j : Nat) (hd : decode cc pc = .ok (.iaload, 1)) (hn : pc + 1 = n) (hk : rg_k r = .inr .int) (hr : r ≠ 0) (hx : x = nI j) (hj : j < rg_n r) (hm : rg_n r < 2 ^ 31) (K : Vw y cc nL ret R mc ms n0 Post n L ((.inl (qg_i h r i j)) :: st) h cells slots) : Vw y cc nL ret R mc ms n0 Post pc L (.inl x :: (.inr (.inr (some (r, i)))) :: st) h cells slots := by
  subst hx
  refine V_iald n hd hn hk hr (vp_in_nI hj hm) ?_
  rw [nI_clamp (Nat.lt_trans hj hm)]
  exact K
theorem V_zaldN (n : Nat) {x : Int32} (j : Nat) (hd : decode cc pc = .ok (.baload, 1)) (hn : pc + 1 = n) (hk : rg_k r = .inr .boolean) (hr : r ≠ 0) (hx : x = nI j) (hj : j < rg_n r) (hm : rg_n r < 2 ^ 31) (K : Vw y cc nL ret R mc ms n0 Post n L ((.inl (qg_i h r i j)) :: st) h cells slots) : Vw y cc nL ret R mc ms n0 Post pc L (.inl x :: (.inr (.inr (some (r, i)))) :: st) h cells slots := by
  subst hx
  refine V_zald n hd hn hk hr (vp_in_nI hj hm) ?_
  rw [nI_clamp (Nat.lt_trans hj hm)]
  exact K
theorem V_laldN (n : Nat) {x : Int32} (j : Nat) (hd : decode cc pc = .ok (.laload, 1)) (hn : pc + 1 = n) (hk : rg_k r = .inr .long) (hr : r ≠ 0) (hx : x = nI j) (hj : j < rg_n r) (hm : rg_n r < 2 ^ 31) (K : Vw y cc nL ret R mc ms n0 Post n L ((.inr (.inl (qg_l h r i j))) :: st) h cells slots) : Vw y cc nL ret R mc ms n0 Post pc L (.inl x :: (.inr (.inr (some (r, i)))) :: st) h cells slots := by
  subst hx
  refine V_lald n hd hn hk hr (vp_in_nI hj hm) ?_
  rw [nI_clamp (Nat.lt_trans hj hm)]
  exact K
theorem V_iastN (n : Nat) {x v : Int32} (j : Nat) (hd : decode cc pc = .ok (.iastore, 1)) (hn : pc + 1 = n) (hk : rg_k r = .inr .int) (hr : r ≠ 0) (hx : x = nI j) (hj : j < rg_n r) (hm : rg_n r < 2 ^ 31) (K : Vw y cc nL ret R mc ms n0 Post n L st (qs_i h r i j v) cells slots) : Vw y cc nL ret R mc ms n0 Post pc L (.inl v :: .inl x :: (.inr (.inr (some (r, i)))) :: st) h cells slots := by
  subst hx
  refine V_iast n hd hn hk hr (vp_in_nI hj hm) ?_
  rw [nI_clamp (Nat.lt_trans hj hm)]
  exact K
theorem V_zastN (n : Nat) {x v : Int32} (j : Nat) (hd : decode cc pc = .ok (.bastore, 1)) (hn : pc + 1 = n) (hk : rg_k r = .inr .boolean) (hr : r ≠ 0) (hx : x = nI j) (hj : j < rg_n r) (hm : rg_n r < 2 ^ 31) (hv : narrow .boolean (.int v) = .int v) (K : Vw y cc nL ret R mc ms n0 Post n L st (qs_i h r i j v) cells slots) : Vw y cc nL ret R mc ms n0 Post pc L (.inl v :: .inl x :: (.inr (.inr (some (r, i)))) :: st) h cells slots := by
  subst hx
  refine V_zast n hd hn hk hr (vp_in_nI hj hm) hv ?_
  rw [nI_clamp (Nat.lt_trans hj hm)]
  exact K
theorem V_lastN (n : Nat) {x : Int32} {v : Int64} (j : Nat) (hd : decode cc pc = .ok (.lastore, 1)) (hn : pc + 1 = n) (hk : rg_k r = .inr .long) (hr : r ≠ 0) (hx : x = nI j) (hj : j < rg_n r) (hm : rg_n r < 2 ^ 31) (K : Vw y cc nL ret R mc ms n0 Post n L st (qs_l h r i j v) cells slots) : Vw y cc nL ret R mc ms n0 Post pc L (.inr (.inl v) :: .inl x :: (.inr (.inr (some (r, i)))) :: st) h cells slots := by
  subst hx
  refine V_last n hd hn hk hr (vp_in_nI hj hm) ?_
  rw [nI_clamp (Nat.lt_trans hj hm)]
  exact K
theorem V_aastN (n : Nat) {x : Int32} {r2 i2 c2 : Nat} (j : Nat) (hd : decode cc pc = .ok (.aastore, 1)) (hn : pc + 1 = n) (hk : rg_k r = .inr (.object (rg_C c2))) (hk2 : rg_k r2 = .inl c2) (hr : r ≠ 0) (hr2 : r2 ≠ 0) (hx : x = nI j) (hj : j < rg_n r) (hm : rg_n r < 2 ^ 31) (K : Vw y cc nL ret R mc ms n0 Post n L st (qs_r h r i j (some (r2, i2))) cells slots) : Vw y cc nL ret R mc ms n0 Post pc L ((.inr (.inr (some (r2, i2)))) :: .inl x :: (.inr (.inr (some (r, i)))) :: st) h cells slots := by
  subst hx
  refine V_aast n hd hn hk hk2 hr hr2 (vp_in_nI hj hm) ?_
  rw [nI_clamp (Nat.lt_trans hj hm)]
  exact K
theorem V_iinc1 (n : Nat) {i : Nat} {x : Int32} (hd : decode cc pc = .ok (.iinc i 1, 3)) (hn : pc + 3 = n) (hl : qlk L i = some (.inl x)) (hi : i < nL) (K : Vw y cc nL ret R mc ms n0 Post n (qst L i (.inl (x + 1))) st h cells slots) : Vw y cc nL ret R mc ms n0 Post pc L st h cells slots := V_iinc n hd hn hl rfl hi K
theorem V_iincN (n : Nat) {i j : Nat} (hd : decode cc pc = .ok (.iinc i 1, 3)) (hn : pc + 3 = n) (hl : qlk L i = some (.inl (nI j))) (hi : i < nL) (K : Vw y cc nL ret R mc ms n0 Post n (qst L i (.inl (nI (j + 1)))) st h cells slots) : Vw y cc nL ret R mc ms n0 Post pc L st h cells slots := V_iinc n hd hn hl (nI_succ j).symm hi K
theorem V_at {L' : List (Nat × qV)} (k : Vw y cc nL ret R mc ms n0 Post pc L' st h cells slots) (hs : qsub L' L) : Vw y cc nL ret R mc ms n0 Post pc L st h cells slots := V_loc hs k
/-- the heap under another name -/
theorem V_heap {h2 : qH} (e : h = h2) (K : Vw y cc nL ret R mc ms n0 Post pc L st h2 cells slots) : Vw y cc nL ret R mc ms n0 Post pc L st h cells slots := e ▸ K
end VM
theorem qM.weak {y : MethodName} {cc : ByteArray} {nL : Nat} {ret : Option FieldType} {d lo mc ms : Nat} {as : List qV} {h : qH} {P P2 : Option qV → qH → Prop} (M : qM y cc nL ret d lo mc ms as h P) (hP : ∀ v h', P v h' → P2 v h') : qM y cc nL ret d lo mc ms as h P2 := by
  intro l D sz ρ hcl p e ha hc hk s m args below hf hfit hPc hkk
  obtain ⟨n, o, h1, h2, h3, ⟨⟨v, h', ρ', q1, q2, q3⟩, q4⟩, q5⟩ := M l D sz ρ hcl p e ha hc hk s m args below hf hfit hPc hkk
  exact ⟨n, o, h1, h2, h3, ⟨⟨v, h', ρ', q1, hP v h' q2, q3⟩, q4⟩, q5⟩
theorem nz_b : ∀ {x : Int32}, (x = 0 ∨ x = 1) → narrow .boolean (.int x) = .int x := fun h => by rcases h with rfl | rfl <;> rfl
theorem lg_c (x z : Int64) : (lg_cmp x z = 1 ∧ z.toInt < x.toInt) ∨ (lg_cmp x z = 0 ∧ x.toInt = z.toInt) ∨ (lg_cmp x z = -1 ∧ x.toInt < z.toInt) := by
  unfold lg_cmp
  split
  · rename_i h
    exact Or.inl ⟨rfl, Int64.lt_iff_toInt_lt.mp h⟩
  · split
    · rename_i h1 h2
      exact Or.inr (Or.inl ⟨rfl, by rw [h2]⟩)
    · rename_i h1 h2
      refine Or.inr (Or.inr ⟨rfl, ?_⟩)
      have h1 : ¬ z < x := h1
      rw [Int64.lt_iff_toInt_lt] at h1
      have : x.toInt ≠ z.toInt := fun e => h2 (Int64.toInt_inj.mp e)
      omega
theorem lg_lt {x z : Int64} : (lg_cmp x z < 0) = (x < z) := by
  rw [Int64.lt_iff_toInt_lt]
  rcases lg_c x z with ⟨e, h⟩ | ⟨e, h⟩ | ⟨e, h⟩ <;> rw [e]
  · exact propext ⟨fun q => absurd q (by decide), fun q => by omega⟩
  · exact propext ⟨fun q => absurd q (by decide), fun q => by omega⟩
  · exact propext ⟨fun q => h, fun q => by decide⟩
theorem lg_gt {x z : Int64} : (0 < lg_cmp x z) = (z < x) := by
  rw [Int64.lt_iff_toInt_lt]
  rcases lg_c x z with ⟨e, h⟩ | ⟨e, h⟩ | ⟨e, h⟩ <;> rw [e]
  · exact propext ⟨fun q => h, fun q => by decide⟩
  · exact propext ⟨fun q => absurd q (by decide), fun q => by omega⟩
  · exact propext ⟨fun q => absurd q (by decide), fun q => by omega⟩
theorem lg_ge {x z : Int64} : (0 ≤ lg_cmp x z) = (z ≤ x) := by
  rw [Int64.le_iff_toInt_le]
  rcases lg_c x z with ⟨e, h⟩ | ⟨e, h⟩ | ⟨e, h⟩ <;> rw [e]
  · exact propext ⟨fun q => by omega, fun q => by decide⟩
  · exact propext ⟨fun q => by omega, fun q => by decide⟩
  · exact propext ⟨fun q => absurd q (by decide), fun q => by omega⟩
theorem lg_le {x z : Int64} : (lg_cmp x z ≤ 0) = (x ≤ z) := by
  rw [Int64.le_iff_toInt_le]
  rcases lg_c x z with ⟨e, h⟩ | ⟨e, h⟩ | ⟨e, h⟩ <;> rw [e]
  · exact propext ⟨fun q => absurd q (by decide), fun q => by omega⟩
  · exact propext ⟨fun q => by omega, fun q => by decide⟩
  · exact propext ⟨fun q => by omega, fun q => by decide⟩
theorem lg_eq {x z : Int64} : (lg_cmp x z = 0) = (x = z) := by
  rw [← Int64.toInt_inj]
  rcases lg_c x z with ⟨e, h⟩ | ⟨e, h⟩ | ⟨e, h⟩ <;> rw [e]
  · exact propext ⟨fun q => absurd q (by decide), fun q => by omega⟩
  · exact propext ⟨fun q => h, fun q => rfl⟩
  · exact propext ⟨fun q => absurd q (by decide), fun q => by omega⟩
end
section
/-! Math, and the reference's small methods -/
theorem qx_sw {x : Int32} (lo n : Nat) (h1 : lo + n < 2 ^ 31) (h2 : 0 < n) (z : ¬ (x.toInt < (lo : Int) ∨ ((lo + n - 1 : Nat) : Int) < x.toInt)) : ∃ j : Nat, j < n ∧ x = nI (lo + j) := by
  refine ⟨x.toInt.toNat - lo, by omega, ?_⟩
  apply Int32.toInt_inj.mp
  rw [nI_toInt (by omega)]
  omega
theorem ct_J9_max_7cf53 (h : qH) (a b : Int32) : qM yJ9_max_7cf53 cJ9_max_7cf53 2 (some .int) 0 0 0 0 [.inl a, .inl b] h (pI fun x h' => x = (if a < b then b else a) ∧ h' = h) := by
  refine qM.of (by decide +kernel) (Nat.le_of_ble_eq_true rfl) ?_
  refine V_iload_n 1 dJ9_max_7cf53_0 rfl rfl ?_
  refine V_iload_n 2 dJ9_max_7cf53_1 rfl rfl ?_
  refine V_icmp_lt 9 5 dJ9_max_7cf53_2 rfl rfl (fun c_2 => ?_) (fun c_2 => ?_)
  · skip
    refine V_iload_n 10 dJ9_max_7cf53_9 rfl rfl ?_
    refine V_iret dJ9_max_7cf53_10 rfl rfl ⟨_, rfl, ?_⟩ (by first | exact Nat.le_refl _ | decide | omega) (by first | exact Nat.le_refl _ | decide | omega)
    exact ⟨by split <;> first | rfl | grind, rfl⟩
  · skip
    refine V_iload_n 6 dJ9_max_7cf53_5 rfl rfl ?_
    refine V_goto 10 dJ9_max_7cf53_6 rfl ?_
    refine V_iret dJ9_max_7cf53_10 rfl rfl ⟨_, rfl, ?_⟩ (by first | exact Nat.le_refl _ | decide | omega) (by first | exact Nat.le_refl _ | decide | omega)
    exact ⟨by split <;> first | rfl | grind, rfl⟩
theorem ct_J9_min_7cf53 (h : qH) (a b : Int32) : qM yJ9_min_7cf53 cJ9_min_7cf53 2 (some .int) 0 0 0 0 [.inl a, .inl b] h (pI fun x h' => x = (if b < a then b else a) ∧ h' = h) := by
  refine qM.of (by decide +kernel) (Nat.le_of_ble_eq_true rfl) ?_
  refine V_iload_n 1 dJ9_min_7cf53_0 rfl rfl ?_
  refine V_iload_n 2 dJ9_min_7cf53_1 rfl rfl ?_
  refine V_icmp_gt 9 5 dJ9_min_7cf53_2 rfl rfl (fun c_2 => ?_) (fun c_2 => ?_)
  · skip
    refine V_iload_n 10 dJ9_min_7cf53_9 rfl rfl ?_
    refine V_iret dJ9_min_7cf53_10 rfl rfl ⟨_, rfl, ?_⟩ (by first | exact Nat.le_refl _ | decide | omega) (by first | exact Nat.le_refl _ | decide | omega)
    exact ⟨by split <;> first | rfl | grind, rfl⟩
  · skip
    refine V_iload_n 6 dJ9_min_7cf53_5 rfl rfl ?_
    refine V_goto 10 dJ9_min_7cf53_6 rfl ?_
    refine V_iret dJ9_min_7cf53_10 rfl rfl ⟨_, rfl, ?_⟩ (by first | exact Nat.le_refl _ | decide | omega) (by first | exact Nat.le_refl _ | decide | omega)
    exact ⟨by split <;> first | rfl | grind, rfl⟩
theorem ct_J9_max_f86c9 (h : qH) (a b : Int64) : qM yJ9_max_f86c9 cJ9_max_f86c9 4 (some .long) 0 0 0 0 [.inr (.inl a), .inr (.inl b)] h (pL fun x h' => x = (if a < b then b else a) ∧ h' = h) := by
  refine qM.of (by decide +kernel) (Nat.le_of_ble_eq_true rfl) ?_
  refine V_lload_n 1 dJ9_max_f86c9_0 rfl rfl ?_
  refine V_lload_n 2 dJ9_max_f86c9_1 rfl rfl ?_
  refine V_lcmp 3 dJ9_max_f86c9_2 rfl ?_
  refine V_if_lt 10 6 dJ9_max_f86c9_3 rfl rfl (fun c_3 => ?_) (fun c_3 => ?_)
  · (rw [lg_lt] at c_3)
    refine V_lload_n 11 dJ9_max_f86c9_10 rfl rfl ?_
    refine V_lret dJ9_max_f86c9_11 rfl ⟨_, rfl, ?_⟩ (by first | exact Nat.le_refl _ | decide | omega) (by first | exact Nat.le_refl _ | decide | omega)
    exact ⟨by split <;> first | rfl | grind, rfl⟩
  · (rw [lg_lt] at c_3)
    refine V_lload_n 7 dJ9_max_f86c9_6 rfl rfl ?_
    refine V_goto 11 dJ9_max_f86c9_7 rfl ?_
    refine V_lret dJ9_max_f86c9_11 rfl ⟨_, rfl, ?_⟩ (by first | exact Nat.le_refl _ | decide | omega) (by first | exact Nat.le_refl _ | decide | omega)
    exact ⟨by split <;> first | rfl | grind, rfl⟩
theorem ct_J9_min_f86c9 (h : qH) (a b : Int64) : qM yJ9_min_f86c9 cJ9_min_f86c9 4 (some .long) 0 0 0 0 [.inr (.inl a), .inr (.inl b)] h (pL fun x h' => x = (if b < a then b else a) ∧ h' = h) := by
  refine qM.of (by decide +kernel) (Nat.le_of_ble_eq_true rfl) ?_
  refine V_lload_n 1 dJ9_min_f86c9_0 rfl rfl ?_
  refine V_lload_n 2 dJ9_min_f86c9_1 rfl rfl ?_
  refine V_lcmp 3 dJ9_min_f86c9_2 rfl ?_
  refine V_if_gt 10 6 dJ9_min_f86c9_3 rfl rfl (fun c_3 => ?_) (fun c_3 => ?_)
  · (rw [lg_gt] at c_3)
    refine V_lload_n 11 dJ9_min_f86c9_10 rfl rfl ?_
    refine V_lret dJ9_min_f86c9_11 rfl ⟨_, rfl, ?_⟩ (by first | exact Nat.le_refl _ | decide | omega) (by first | exact Nat.le_refl _ | decide | omega)
    exact ⟨by split <;> first | rfl | grind, rfl⟩
  · (rw [lg_gt] at c_3)
    refine V_lload_n 7 dJ9_min_f86c9_6 rfl rfl ?_
    refine V_goto 11 dJ9_min_f86c9_7 rfl ?_
    refine V_lret dJ9_min_f86c9_11 rfl ⟨_, rfl, ?_⟩ (by first | exact Nat.le_refl _ | decide | omega) (by first | exact Nat.le_refl _ | decide | omega)
    exact ⟨by split <;> first | rfl | grind, rfl⟩
def q_fdiv (a b : Int64) : Int64 := if (a ^^^ b) < 0 ∧ a / b * b ≠ a then a / b - 1 else a / b
def q_fmod (a b : Int64) : Int64 := if (a ^^^ b) < 0 ∧ a - a / b * b ≠ 0 then a - a / b * b + b else a - a / b * b
theorem ct_J9_floorDiv_f86c9 (h : qH) (a b : Int64) (hb : ¬ b = 0) : qM yJ9_floorDiv_f86c9 cJ9_floorDiv_f86c9 6 (some .long) 0 0 0 0 [.inr (.inl a), .inr (.inl b)] h (pL fun x h' => x = q_fdiv a b ∧ h' = h) := by
  refine qM.of (by decide +kernel) (Nat.le_of_ble_eq_true rfl) ?_
  refine V_lload_n 1 dJ9_floorDiv_f86c9_0 rfl rfl ?_
  refine V_lload_n 2 dJ9_floorDiv_f86c9_1 rfl rfl ?_
  refine V_ldiv 3 dJ9_floorDiv_f86c9_2 rfl hb ?_
  refine V_lstore 5 dJ9_floorDiv_f86c9_3 rfl (by decide) ?_
  refine V_lload_n 6 dJ9_floorDiv_f86c9_5 rfl rfl ?_
  refine V_lload_n 7 dJ9_floorDiv_f86c9_6 rfl rfl ?_
  refine V_lxor 8 dJ9_floorDiv_f86c9_7 rfl ?_
  refine V_lconst (v := 0) 9 dJ9_floorDiv_f86c9_8 rfl (by decide) ?_
  refine V_lcmp 10 dJ9_floorDiv_f86c9_9 rfl ?_
  refine V_if_ge 27 13 dJ9_floorDiv_f86c9_10 rfl rfl (fun c_10 => ?_) (fun c_10 => ?_)
  · (rw [lg_ge] at c_10)
    refine V_lload 29 dJ9_floorDiv_f86c9_27 rfl rfl ?_
    refine V_lret dJ9_floorDiv_f86c9_29 rfl ⟨_, rfl, ?_⟩ (by first | exact Nat.le_refl _ | decide | omega) (by first | exact Nat.le_refl _ | decide | omega)
    exact ⟨by grind [q_fdiv], rfl⟩
  · (rw [lg_ge] at c_10)
    refine V_lload 15 dJ9_floorDiv_f86c9_13 rfl rfl ?_
    refine V_lload_n 16 dJ9_floorDiv_f86c9_15 rfl rfl ?_
    refine V_lmul 17 dJ9_floorDiv_f86c9_16 rfl ?_
    refine V_lload_n 18 dJ9_floorDiv_f86c9_17 rfl rfl ?_
    refine V_lcmp 19 dJ9_floorDiv_f86c9_18 rfl ?_
    refine V_if_eq 27 22 dJ9_floorDiv_f86c9_19 rfl rfl (fun c_19 => ?_) (fun c_19 => ?_)
    · (rw [lg_eq] at c_19)
      refine V_lload 29 dJ9_floorDiv_f86c9_27 rfl rfl ?_
      refine V_lret dJ9_floorDiv_f86c9_29 rfl ⟨_, rfl, ?_⟩ (by first | exact Nat.le_refl _ | decide | omega) (by first | exact Nat.le_refl _ | decide | omega)
      exact ⟨by grind [q_fdiv], rfl⟩
    · (rw [lg_eq] at c_19)
      refine V_lload 24 dJ9_floorDiv_f86c9_22 rfl rfl ?_
      refine V_lconst (v := 1) 25 dJ9_floorDiv_f86c9_24 rfl (by decide) ?_
      refine V_lsub 26 dJ9_floorDiv_f86c9_25 rfl ?_
      refine V_lret dJ9_floorDiv_f86c9_26 rfl ⟨_, rfl, ?_⟩ (by first | exact Nat.le_refl _ | decide | omega) (by first | exact Nat.le_refl _ | decide | omega)
      exact ⟨by grind [q_fdiv], rfl⟩
theorem ct_J9_floorMod_f86c9 (h : qH) (a b : Int64) (hb : ¬ b = 0) : qM yJ9_floorMod_f86c9 cJ9_floorMod_f86c9 6 (some .long) 0 0 0 0 [.inr (.inl a), .inr (.inl b)] h (pL fun x h' => x = q_fmod a b ∧ h' = h) := by
  refine qM.of (by decide +kernel) (Nat.le_of_ble_eq_true rfl) ?_
  refine V_lload_n 1 dJ9_floorMod_f86c9_0 rfl rfl ?_
  refine V_lload_n 2 dJ9_floorMod_f86c9_1 rfl rfl ?_
  refine V_lrem 3 dJ9_floorMod_f86c9_2 rfl hb ?_
  refine V_lstore 5 dJ9_floorMod_f86c9_3 rfl (by decide) ?_
  refine V_lload_n 6 dJ9_floorMod_f86c9_5 rfl rfl ?_
  refine V_lload_n 7 dJ9_floorMod_f86c9_6 rfl rfl ?_
  refine V_lxor 8 dJ9_floorMod_f86c9_7 rfl ?_
  refine V_lconst (v := 0) 9 dJ9_floorMod_f86c9_8 rfl (by decide) ?_
  refine V_lcmp 10 dJ9_floorMod_f86c9_9 rfl ?_
  refine V_if_ge 25 13 dJ9_floorMod_f86c9_10 rfl rfl (fun c_10 => ?_) (fun c_10 => ?_)
  · (rw [lg_ge] at c_10)
    refine V_lload 27 dJ9_floorMod_f86c9_25 rfl rfl ?_
    refine V_lret dJ9_floorMod_f86c9_27 rfl ⟨_, rfl, ?_⟩ (by first | exact Nat.le_refl _ | decide | omega) (by first | exact Nat.le_refl _ | decide | omega)
    exact ⟨by grind [q_fmod], rfl⟩
  · (rw [lg_ge] at c_10)
    refine V_lload 15 dJ9_floorMod_f86c9_13 rfl rfl ?_
    refine V_lconst (v := 0) 16 dJ9_floorMod_f86c9_15 rfl (by decide) ?_
    refine V_lcmp 17 dJ9_floorMod_f86c9_16 rfl ?_
    refine V_if_eq 25 20 dJ9_floorMod_f86c9_17 rfl rfl (fun c_17 => ?_) (fun c_17 => ?_)
    · (rw [lg_eq] at c_17)
      refine V_lload 27 dJ9_floorMod_f86c9_25 rfl rfl ?_
      refine V_lret dJ9_floorMod_f86c9_27 rfl ⟨_, rfl, ?_⟩ (by first | exact Nat.le_refl _ | decide | omega) (by first | exact Nat.le_refl _ | decide | omega)
      exact ⟨by grind [q_fmod], rfl⟩
    · (rw [lg_eq] at c_17)
      refine V_lload 22 dJ9_floorMod_f86c9_20 rfl rfl ?_
      refine V_lload_n 23 dJ9_floorMod_f86c9_22 rfl rfl ?_
      refine V_ladd 24 dJ9_floorMod_f86c9_23 rfl ?_
      refine V_lret dJ9_floorMod_f86c9_24 rfl ⟨_, rfl, ?_⟩ (by first | exact Nat.le_refl _ | decide | omega) (by first | exact Nat.le_refl _ | decide | omega)
      exact ⟨by grind [q_fmod], rfl⟩
end
section
/-! Rows with the value read given by an equation -/
section VV
variable {y : MethodName} {cc : ByteArray} {nL : Nat} {ret : Option FieldType} {R : Room} {mc ms : Nat} {n0 : Nat → Nat} {Post : Option qV → qH → Prop} {pc : Nat} {L : List (Nat × qV)} {st : List qV} {h : qH} {cells slots : Nat} {r i c k idx : Nat}
theorem V_getiV (n : Nat) (c k : Nat) (hw : Cond.fieldLink y.cls idx (rg_T c k).1 (rg_T c k).2.1 (rg_T c k).2.2.1 ∈ lw_tbl) (hd : decode cc pc = .ok (.getfield idx, 3)) (hn : pc + 3 = n) (hk : rg_k r = .inl c) (hkN : k < rg_N c) (ht : rg_t c k = .int) (hr : r ≠ 0) {v : Int32} (hv : qg_i h r i k = v) (K : Vw y cc nL ret R mc ms n0 Post n L ((.inl v) :: st) h cells slots) : Vw y cc nL ret R mc ms n0 Post pc L ((.inr (.inr (some (r, i)))) :: st) h cells slots := by
  subst hv
  exact V_geti n c k hw hd hn hk hkN ht hr K
theorem V_getzV (n : Nat) (c k : Nat) (hw : Cond.fieldLink y.cls idx (rg_T c k).1 (rg_T c k).2.1 (rg_T c k).2.2.1 ∈ lw_tbl) (hd : decode cc pc = .ok (.getfield idx, 3)) (hn : pc + 3 = n) (hk : rg_k r = .inl c) (hkN : k < rg_N c) (ht : rg_t c k = .boolean) (hr : r ≠ 0) {v : Int32} (hv : qg_i h r i k = v) (K : Vw y cc nL ret R mc ms n0 Post n L ((.inl v) :: st) h cells slots) : Vw y cc nL ret R mc ms n0 Post pc L ((.inr (.inr (some (r, i)))) :: st) h cells slots := by
  subst hv
  exact V_getz n c k hw hd hn hk hkN ht hr K
theorem V_getlV (n : Nat) (c k : Nat) (hw : Cond.fieldLink y.cls idx (rg_T c k).1 (rg_T c k).2.1 (rg_T c k).2.2.1 ∈ lw_tbl) (hd : decode cc pc = .ok (.getfield idx, 3)) (hn : pc + 3 = n) (hk : rg_k r = .inl c) (hkN : k < rg_N c) (ht : rg_t c k = .long) (hr : r ≠ 0) {v : Int64} (hv : qg_l h r i k = v) (K : Vw y cc nL ret R mc ms n0 Post n L ((.inr (.inl v)) :: st) h cells slots) : Vw y cc nL ret R mc ms n0 Post pc L ((.inr (.inr (some (r, i)))) :: st) h cells slots := by
  subst hv
  exact V_getl n c k hw hd hn hk hkN ht hr K
theorem V_ialdV (n : Nat) {x : Int32} (j : Nat) (hd : decode cc pc = .ok (.iaload, 1)) (hn : pc + 1 = n) (hk : rg_k r = .inr .int) (hr : r ≠ 0) (hx : x = nI j) (hj : j < rg_n r) (hm : rg_n r < 2 ^ 31) {v : Int32} (hv : qg_i h r i j = v) (K : Vw y cc nL ret R mc ms n0 Post n L ((.inl v) :: st) h cells slots) : Vw y cc nL ret R mc ms n0 Post pc L (.inl x :: (.inr (.inr (some (r, i)))) :: st) h cells slots := by
  subst hv
  exact V_ialdN n j hd hn hk hr hx hj hm K
theorem V_zaldV (n : Nat) {x : Int32} (j : Nat) (hd : decode cc pc = .ok (.baload, 1)) (hn : pc + 1 = n) (hk : rg_k r = .inr .boolean) (hr : r ≠ 0) (hx : x = nI j) (hj : j < rg_n r) (hm : rg_n r < 2 ^ 31) {v : Int32} (hv : qg_i h r i j = v) (K : Vw y cc nL ret R mc ms n0 Post n L ((.inl v) :: st) h cells slots) : Vw y cc nL ret R mc ms n0 Post pc L (.inl x :: (.inr (.inr (some (r, i)))) :: st) h cells slots := by
  subst hv
  exact V_zaldN n j hd hn hk hr hx hj hm K
theorem V_laldV (n : Nat) {x : Int32} (j : Nat) (hd : decode cc pc = .ok (.laload, 1)) (hn : pc + 1 = n) (hk : rg_k r = .inr .long) (hr : r ≠ 0) (hx : x = nI j) (hj : j < rg_n r) (hm : rg_n r < 2 ^ 31) {v : Int64} (hv : qg_l h r i j = v) (K : Vw y cc nL ret R mc ms n0 Post n L ((.inr (.inl v)) :: st) h cells slots) : Vw y cc nL ret R mc ms n0 Post pc L (.inl x :: (.inr (.inr (some (r, i)))) :: st) h cells slots := by
  subst hv
  exact V_laldN n j hd hn hk hr hx hj hm K
theorem V_geti0 (n : Nat) (c k : Nat) (hw : Cond.fieldLink y.cls idx (rg_T c k).1 (rg_T c k).2.1 (rg_T c k).2.2.1 ∈ lw_tbl) (hd : decode cc pc = .ok (.getfield idx, 3)) (hn : pc + 3 = n) (hk : rg_k r = .inl c) (hkN : k < rg_N c) (ht : rg_t c k = .int) (hr : r ≠ 0) (K : Vw y cc nL ret R mc ms n0 Post n L ((.inl (qg_i h r i k)) :: st) h cells slots) : Vw y cc nL ret R mc ms n0 Post pc L ((.inr (.inr (some (r, i)))) :: st) h cells slots := V_geti n c k hw hd hn hk hkN ht hr K
end VV
end
section
/-! Sums, chains, shapes -/
def rm_g : Nat → Option (Nat × Nat) := fun k => match k with
  | 2 => some (34, 0)
  | 3 => some (35, 0)
  | 4 => some (36, 0)
  | 5 => some (37, 0)
  | 7 => some (38, 0)
  | 8 => some (39, 0)
  | 9 => some (40, 0)
  | 11 => some (41, 0)
  | 12 => some (42, 0)
  | 13 => some (43, 0)
  | 14 => some (44, 0)
  | 15 => some (45, 0)
  | 16 => some (46, 0)
  | 17 => some (47, 0)
  | 18 => some (48, 0)
  | 19 => some (49, 0)
  | 20 => some (50, 0)
  | 21 => some (51, 0)
  | 22 => some (52, 0)
  | 23 => some (53, 0)
  | 24 => some (54, 0)
  | 25 => some (55, 0)
  | 26 => some (56, 0)
  | 28 => some (57, 0)
  | 29 => some (58, 0)
  | 30 => some (59, 0)
  | 31 => some (60, 0)
  | _ => none
/-- the reference's object: its arrays -/
def SHR (h : qH) : Prop := ∀ k, qg_r h 33 0 k = rm_g k
theorem sr_2 {h : qH} (S : SHR h) : qg_r h 33 0 2 = some (34, 0) := S 2
theorem sr_3 {h : qH} (S : SHR h) : qg_r h 33 0 3 = some (35, 0) := S 3
theorem sr_4 {h : qH} (S : SHR h) : qg_r h 33 0 4 = some (36, 0) := S 4
theorem sr_5 {h : qH} (S : SHR h) : qg_r h 33 0 5 = some (37, 0) := S 5
theorem sr_7 {h : qH} (S : SHR h) : qg_r h 33 0 7 = some (38, 0) := S 7
theorem sr_8 {h : qH} (S : SHR h) : qg_r h 33 0 8 = some (39, 0) := S 8
theorem sr_9 {h : qH} (S : SHR h) : qg_r h 33 0 9 = some (40, 0) := S 9
theorem sr_11 {h : qH} (S : SHR h) : qg_r h 33 0 11 = some (41, 0) := S 11
theorem sr_12 {h : qH} (S : SHR h) : qg_r h 33 0 12 = some (42, 0) := S 12
theorem sr_13 {h : qH} (S : SHR h) : qg_r h 33 0 13 = some (43, 0) := S 13
theorem sr_14 {h : qH} (S : SHR h) : qg_r h 33 0 14 = some (44, 0) := S 14
theorem sr_15 {h : qH} (S : SHR h) : qg_r h 33 0 15 = some (45, 0) := S 15
theorem sr_16 {h : qH} (S : SHR h) : qg_r h 33 0 16 = some (46, 0) := S 16
theorem sr_17 {h : qH} (S : SHR h) : qg_r h 33 0 17 = some (47, 0) := S 17
theorem sr_18 {h : qH} (S : SHR h) : qg_r h 33 0 18 = some (48, 0) := S 18
theorem sr_19 {h : qH} (S : SHR h) : qg_r h 33 0 19 = some (49, 0) := S 19
theorem sr_20 {h : qH} (S : SHR h) : qg_r h 33 0 20 = some (50, 0) := S 20
theorem sr_21 {h : qH} (S : SHR h) : qg_r h 33 0 21 = some (51, 0) := S 21
theorem sr_22 {h : qH} (S : SHR h) : qg_r h 33 0 22 = some (52, 0) := S 22
theorem sr_23 {h : qH} (S : SHR h) : qg_r h 33 0 23 = some (53, 0) := S 23
theorem sr_24 {h : qH} (S : SHR h) : qg_r h 33 0 24 = some (54, 0) := S 24
theorem sr_25 {h : qH} (S : SHR h) : qg_r h 33 0 25 = some (55, 0) := S 25
theorem sr_26 {h : qH} (S : SHR h) : qg_r h 33 0 26 = some (56, 0) := S 26
theorem sr_28 {h : qH} (S : SHR h) : qg_r h 33 0 28 = some (57, 0) := S 28
theorem sr_29 {h : qH} (S : SHR h) : qg_r h 33 0 29 = some (58, 0) := S 29
theorem sr_30 {h : qH} (S : SHR h) : qg_r h 33 0 30 = some (59, 0) := S 30
theorem sr_31 {h : qH} (S : SHR h) : qg_r h 33 0 31 = some (60, 0) := S 31
def sm_l (f : Nat → Int64) : Nat → Int64
  | 0 => 0
  | n + 1 => sm_l f n + f n
def sm_i (f : Nat → Int32) : Nat → Int32
  | 0 => 0
  | n + 1 => sm_i f n + f n
theorem sm_l_congr {f g : Nat → Int64} : ∀ {n : Nat}, (∀ i, i < n → f i = g i) → sm_l f n = sm_l g n
  | 0, _ => rfl
  | n + 1, h => by
    show sm_l f n + f n = sm_l g n + g n
    rw [sm_l_congr (fun i hi => h i (Nat.lt_succ_of_lt hi)), h n (Nat.lt_succ_self n)]
theorem sm_i_congr {f g : Nat → Int32} : ∀ {n : Nat}, (∀ i, i < n → f i = g i) → sm_i f n = sm_i g n
  | 0, _ => rfl
  | n + 1, h => by
    show sm_i f n + f n = sm_i g n + g n
    rw [sm_i_congr (fun i hi => h i (Nat.lt_succ_of_lt hi)), h n (Nat.lt_succ_self n)]
/-- does a lie in b (or is it b), by the table p of what each lies in (-1: nothing) -/
def ly_n (p : Nat → Int32) : Nat → Nat → Nat → Bool
  | 0, a, b => a == b
  | n + 1, a, b => a == b || (if p a = -1 then false else ly_n p n (p a).toNatClampNeg b)
def ly (p : Nat → Int32) (a b : Nat) : Bool := ly_n p a a b
/-- each lies in an earlier one, or in none -/
def WI (p : Nat → Int32) (n : Nat) : Prop := ∀ a, a < n → p a = -1 ∨ ∃ b, b < a ∧ p a = nI b
theorem ly_fuel {p : Nat → Int32} {N : Nat} (hN : N ≤ 2 ^ 31) (hp : WI p N) : ∀ (n m a : Nat), a < N → a ≤ n → a ≤ m → ∀ b, ly_n p n a b = ly_n p m a b := by
  intro n
  induction n with
  | zero =>
    intro m a haN h1 h2 b
    have : a = 0 := by omega
    subst this
    cases m with
    | zero => rfl
    | succ m =>
      have e : p 0 = -1 := by
        rcases hp 0 haN with e | ⟨c, hc, -⟩
        · exact e
        · omega
      simp [ly_n, e]
  | succ n ih =>
    intro m a haN h1 h2 b
    cases m with
    | zero =>
      have : a = 0 := by omega
      subst this
      have e : p 0 = -1 := by
        rcases hp 0 haN with e | ⟨c, hc, -⟩
        · exact e
        · omega
      simp [ly_n, e]
    | succ m =>
      rcases hp a haN with e | ⟨c, hc, e⟩
      · simp [ly_n, e]
      · simp only [ly_n, e, nI_clamp (show c < 2 ^ 31 by omega)]
        rw [ih m c (by omega) (by omega) (by omega) b]
theorem nI_ne_m1 {n : Nat} (h : n < 2 ^ 31) : ¬ nI n = -1 := fun e => by
  have := congrArg Int32.toInt e
  rw [nI_toInt h] at this
  have h2 : (-1 : Int32).toInt = -1 := rfl
  omega
theorem ly_self (p : Nat → Int32) (a : Nat) : ly p a a = true := by
  unfold ly
  cases a <;> simp [ly_n]
theorem ly_none {p : Nat → Int32} {a b : Nat} (h : p a = -1) (hab : a ≠ b) : ly p a b = false := by
  unfold ly
  cases a <;> simp [ly_n, h, hab]
theorem ly_some {p : Nat → Int32} {N : Nat} (hN : N ≤ 2 ^ 31) (hp : WI p N) {a b c : Nat} (ha : a < N) (hc : c < a) (h : p a = nI c) (hab : a ≠ b) : ly p a b = ly p c b := by
  unfold ly
  cases a with
  | zero => omega
  | succ a =>
    have e : ly_n p (a + 1) (a + 1) b = ly_n p a c b := by
      simp only [ly_n, h, nI_clamp (show c < 2 ^ 31 by omega), if_neg (nI_ne_m1 (show c < 2 ^ 31 by omega))]
      simp [hab]
    rw [e]
    exact ly_fuel hN hp a c c (by omega) (by omega) (Nat.le_refl _) b
theorem ly_le {p : Nat → Int32} {N : Nat} (hN : N ≤ 2 ^ 31) (hp : WI p N) : ∀ {a b : Nat}, a < N → ly p a b = true → b ≤ a := by
  intro a
  induction a using Nat.strongRecOn with
  | _ a ih =>
    intro b ha h
    by_cases hab : a = b
    · omega
    · rcases hp a ha with e | ⟨c, hc, e⟩
      · rw [ly_none e hab] at h
        cases h
      · rw [ly_some hN hp ha hc e hab] at h
        have := ih c hc (by omega) h
        omega
theorem WI.lt {p : Nat → Int32} {n m : Nat} (h : WI p n) (hm : m ≤ n) : WI p m := fun a ha => h a (by omega)
end
section
/-! The reference: small methods, chains, sums -/
section RF
variable {h : qH}
theorem ct_X8_isTenant (h : qH) (a : Int32) : qM yX8_isTenant cX8_isTenant 1 (some .boolean) 0 0 0 0 [.inl a] h (pI fun x h' => x = (if 0 ≤ a ∧ a < 6 then 1 else 0) ∧ h' = h) := by
  refine qM.of (plainFor_of_name (by decide)) (Nat.le_of_ble_eq_true rfl) ?_
  refine V_iload_n 1 dX8_isTenant_0 rfl rfl ?_
  refine V_if_lt 14 4 dX8_isTenant_1 rfl rfl (fun c_1 => ?_) (fun c_1 => ?_)
  · skip
    refine V_iconst (v := 0) 15 dX8_isTenant_14 rfl (by decide) ?_
    refine V_iret dX8_isTenant_15 rfl rfl ⟨_, rfl, ?_⟩ (by first | exact Nat.le_refl _ | decide | omega) (by first | exact Nat.le_refl _ | decide | omega)
    exact ⟨by split <;> first | rfl | grind, rfl⟩
  · skip
    refine V_iload_n 5 dX8_isTenant_4 rfl rfl ?_
    refine V_bipush (v := 6) 7 dX8_isTenant_5 rfl (by decide) ?_
    refine V_icmp_ge 14 10 dX8_isTenant_7 rfl rfl (fun c_7 => ?_) (fun c_7 => ?_)
    · skip
      refine V_iconst (v := 0) 15 dX8_isTenant_14 rfl (by decide) ?_
      refine V_iret dX8_isTenant_15 rfl rfl ⟨_, rfl, ?_⟩ (by first | exact Nat.le_refl _ | decide | omega) (by first | exact Nat.le_refl _ | decide | omega)
      exact ⟨by split <;> first | rfl | grind, rfl⟩
    · skip
      refine V_iconst (v := 1) 11 dX8_isTenant_10 rfl (by decide) ?_
      refine V_goto 15 dX8_isTenant_11 rfl ?_
      refine V_iret dX8_isTenant_15 rfl rfl ⟨_, rfl, ?_⟩ (by first | exact Nat.le_refl _ | decide | omega) (by first | exact Nat.le_refl _ | decide | omega)
      exact ⟨by split <;> first | rfl | grind, rfl⟩
theorem ct_X8_isResource (h : qH) (a : Int32) : qM yX8_isResource cX8_isResource 1 (some .boolean) 0 0 0 0 [.inl a] h (pI fun x h' => x = (if 0 ≤ a ∧ a < 4 then 1 else 0) ∧ h' = h) := by
  refine qM.of (plainFor_of_name (by decide)) (Nat.le_of_ble_eq_true rfl) ?_
  refine V_iload_n 1 dX8_isResource_0 rfl rfl ?_
  refine V_if_lt 13 4 dX8_isResource_1 rfl rfl (fun c_1 => ?_) (fun c_1 => ?_)
  · skip
    refine V_iconst (v := 0) 14 dX8_isResource_13 rfl (by decide) ?_
    refine V_iret dX8_isResource_14 rfl rfl ⟨_, rfl, ?_⟩ (by first | exact Nat.le_refl _ | decide | omega) (by first | exact Nat.le_refl _ | decide | omega)
    exact ⟨by split <;> first | rfl | grind, rfl⟩
  · skip
    refine V_iload_n 5 dX8_isResource_4 rfl rfl ?_
    refine V_iconst (v := 4) 6 dX8_isResource_5 rfl (by decide) ?_
    refine V_icmp_ge 13 9 dX8_isResource_6 rfl rfl (fun c_6 => ?_) (fun c_6 => ?_)
    · skip
      refine V_iconst (v := 0) 14 dX8_isResource_13 rfl (by decide) ?_
      refine V_iret dX8_isResource_14 rfl rfl ⟨_, rfl, ?_⟩ (by first | exact Nat.le_refl _ | decide | omega) (by first | exact Nat.le_refl _ | decide | omega)
      exact ⟨by split <;> first | rfl | grind, rfl⟩
    · skip
      refine V_iconst (v := 1) 10 dX8_isResource_9 rfl (by decide) ?_
      refine V_goto 14 dX8_isResource_10 rfl ?_
      refine V_iret dX8_isResource_14 rfl rfl ⟨_, rfl, ?_⟩ (by first | exact Nat.le_refl _ | decide | omega) (by first | exact Nat.le_refl _ | decide | omega)
      exact ⟨by split <;> first | rfl | grind, rfl⟩
theorem ct_X8_areUnits (h : qH) (a : Int32) : qM yX8_areUnits cX8_areUnits 1 (some .boolean) 0 0 0 0 [.inl a] h (pI fun x h' => x = (if 1 ≤ a ∧ a ≤ 1000000 then 1 else 0) ∧ h' = h) := by
  refine qM.of (plainFor_of_name (by decide)) (Nat.le_of_ble_eq_true rfl) ?_
  refine V_iload_n 1 dX8_areUnits_0 rfl rfl ?_
  refine V_iconst (v := 1) 2 dX8_areUnits_1 rfl (by decide) ?_
  refine V_icmp_lt 15 5 dX8_areUnits_2 rfl rfl (fun c_2 => ?_) (fun c_2 => ?_)
  · skip
    refine V_iconst (v := 0) 16 dX8_areUnits_15 rfl (by decide) ?_
    refine V_iret dX8_areUnits_16 rfl rfl ⟨_, rfl, ?_⟩ (by first | exact Nat.le_refl _ | decide | omega) (by first | exact Nat.le_refl _ | decide | omega)
    exact ⟨by split <;> first | rfl | grind, rfl⟩
  · skip
    refine V_iload_n 6 dX8_areUnits_5 rfl rfl ?_
    refine V_ldc (v := 1000000) 8 dX8_areUnits_6 rfl wc_X8_63 ?_
    refine V_icmp_gt 15 11 dX8_areUnits_8 rfl rfl (fun c_8 => ?_) (fun c_8 => ?_)
    · skip
      refine V_iconst (v := 0) 16 dX8_areUnits_15 rfl (by decide) ?_
      refine V_iret dX8_areUnits_16 rfl rfl ⟨_, rfl, ?_⟩ (by first | exact Nat.le_refl _ | decide | omega) (by first | exact Nat.le_refl _ | decide | omega)
      exact ⟨by split <;> first | rfl | grind, rfl⟩
    · skip
      refine V_iconst (v := 1) 12 dX8_areUnits_11 rfl (by decide) ?_
      refine V_goto 16 dX8_areUnits_12 rfl ?_
      refine V_iret dX8_areUnits_16 rfl rfl ⟨_, rfl, ?_⟩ (by first | exact Nat.le_refl _ | decide | omega) (by first | exact Nat.le_refl _ | decide | omega)
      exact ⟨by split <;> first | rfl | grind, rfl⟩
theorem ct_X8_isAccount (h : qH) (a : Int32) : qM yX8_isAccount cX8_isAccount 2 (some .boolean) 0 0 0 0 [.inr (.inr (some (33, 0))), .inl a] h (pI fun x h' => x = (if 0 ≤ a ∧ a < qg_i h 33 0 1 then 1 else 0) ∧ h' = h) := by
  refine qM.of (plainFor_of_name (by decide)) (Nat.le_of_ble_eq_true rfl) ?_
  refine V_iload_n 1 dX8_isAccount_0 rfl rfl ?_
  refine V_if_lt 16 4 dX8_isAccount_1 rfl rfl (fun c_1 => ?_) (fun c_1 => ?_)
  · skip
    refine V_iconst (v := 0) 17 dX8_isAccount_16 rfl (by decide) ?_
    refine V_iret dX8_isAccount_17 rfl rfl ⟨_, rfl, ?_⟩ (by first | exact Nat.le_refl _ | decide | omega) (by first | exact Nat.le_refl _ | decide | omega)
    exact ⟨by split <;> first | rfl | grind, rfl⟩
  · skip
    refine V_iload_n 5 dX8_isAccount_4 rfl rfl ?_
    refine V_aload_n 6 dX8_isAccount_5 rfl rfl ?_
    refine V_geti 9 8 1 fl_X8_3 dX8_isAccount_6 rfl rfl (by decide) rfl (by decide) ?_
    refine V_icmp_ge 16 12 dX8_isAccount_9 rfl rfl (fun c_9 => ?_) (fun c_9 => ?_)
    · skip
      refine V_iconst (v := 0) 17 dX8_isAccount_16 rfl (by decide) ?_
      refine V_iret dX8_isAccount_17 rfl rfl ⟨_, rfl, ?_⟩ (by first | exact Nat.le_refl _ | decide | omega) (by first | exact Nat.le_refl _ | decide | omega)
      exact ⟨by split <;> first | rfl | grind, rfl⟩
    · skip
      refine V_iconst (v := 1) 13 dX8_isAccount_12 rfl (by decide) ?_
      refine V_goto 17 dX8_isAccount_13 rfl ?_
      refine V_iret dX8_isAccount_17 rfl rfl ⟨_, rfl, ?_⟩ (by first | exact Nat.le_refl _ | decide | omega) (by first | exact Nat.le_refl _ | decide | omega)
      exact ⟨by split <;> first | rfl | grind, rfl⟩
theorem ct_X8_cell (h : qH) (a r p : Nat) : qM yX8_cell cX8_cell 3 (some .int) 0 0 0 0 [.inl (nI a), .inl (nI r), .inl (nI p)] h (pI fun x h' => x = nI ((4 * a + r) * 100 + p) ∧ h' = h) := by
  refine qM.of (plainFor_of_name (by decide)) (Nat.le_of_ble_eq_true rfl) ?_
  refine V_iconst (v := 4) 1 dX8_cell_0 rfl (by decide) ?_
  refine V_iload_n 2 dX8_cell_1 rfl rfl ?_
  refine V_imul 3 dX8_cell_2 rfl ?_
  refine V_iload_n 4 dX8_cell_3 rfl rfl ?_
  refine V_iadd 5 dX8_cell_4 rfl ?_
  refine V_bipush (v := 100) 7 dX8_cell_5 rfl (by decide) ?_
  refine V_imul 8 dX8_cell_7 rfl ?_
  refine V_iload_n 9 dX8_cell_8 rfl rfl ?_
  refine V_iadd 10 dX8_cell_9 rfl ?_
  refine V_iret dX8_cell_10 rfl rfl ⟨_, rfl, ?_⟩ (by first | exact Nat.le_refl _ | decide | omega) (by first | exact Nat.le_refl _ | decide | omega)
  exact ⟨by rw [show (4 : Int32) = nI 4 from rfl, show (100 : Int32) = nI 100 from rfl, pk_mul, nI_add, pk_mul, nI_add], rfl⟩
theorem ct_X8_row (h : qH) (t r : Nat) : qM yX8_row cX8_row 2 (some .int) 0 0 0 0 [.inl (nI t), .inl (nI r)] h (pI fun x h' => x = nI (18 * (4 * t + r)) ∧ h' = h) := by
  refine qM.of (plainFor_of_name (by decide)) (Nat.le_of_ble_eq_true rfl) ?_
  refine V_bipush (v := 18) 2 dX8_row_0 rfl (by decide) ?_
  refine V_iconst (v := 4) 3 dX8_row_2 rfl (by decide) ?_
  refine V_iload_n 4 dX8_row_3 rfl rfl ?_
  refine V_imul 5 dX8_row_4 rfl ?_
  refine V_iload_n 6 dX8_row_5 rfl rfl ?_
  refine V_iadd 7 dX8_row_6 rfl ?_
  refine V_imul 8 dX8_row_7 rfl ?_
  refine V_iret dX8_row_8 rfl rfl ⟨_, rfl, ?_⟩ (by first | exact Nat.le_refl _ | decide | omega) (by first | exact Nat.le_refl _ | decide | omega)
  exact ⟨by rw [show (4 : Int32) = nI 4 from rfl, show (18 : Int32) = nI 18 from rfl, pk_mul, nI_add, pk_mul], rfl⟩
theorem ct_X8_tick (h : qH) (a : Int32) : qM yX8_tick cX8_tick 2 (some .int) 0 0 0 0 [.inr (.inr (some (33, 0))), .inl a] h (pI fun x h' => (x = -2 ∧ h' = h ∧ (a < 1 ∨ 10000 < a)) ∨ (x = -3 ∧ h' = h ∧ 1 ≤ a ∧ a ≤ 10000 ∧ 99999 < qg_i h 33 0 0 + a) ∨ (x = qg_i h 33 0 0 + a ∧ h' = qs_i h 33 0 0 (qg_i h 33 0 0 + a) ∧ 1 ≤ a ∧ a ≤ 10000 ∧ qg_i h 33 0 0 + a ≤ 99999)) := by
  refine qM.of (plainFor_of_name (by decide)) (Nat.le_of_ble_eq_true rfl) ?_
  refine V_iload_n 1 dX8_tick_0 rfl rfl ?_
  refine V_iconst (v := 1) 2 dX8_tick_1 rfl (by decide) ?_
  refine V_icmp_lt 12 5 dX8_tick_2 rfl rfl (fun c_2 => ?_) (fun c_2 => ?_)
  · skip
    refine V_bipush (v := (-2)) 14 dX8_tick_12 rfl (by decide) ?_
    refine V_iret dX8_tick_14 rfl rfl ⟨_, rfl, ?_⟩ (by first | exact Nat.le_refl _ | decide | omega) (by first | exact Nat.le_refl _ | decide | omega)
    exact Or.inl ⟨rfl, rfl, by grind⟩
  · skip
    refine V_iload_n 6 dX8_tick_5 rfl rfl ?_
    refine V_sipush (v := 10000) 9 dX8_tick_6 rfl (by decide) ?_
    refine V_icmp_le 15 12 dX8_tick_9 rfl rfl (fun c_9 => ?_) (fun c_9 => ?_)
    · skip
      refine V_aload_n 16 dX8_tick_15 rfl rfl ?_
      refine V_geti 19 8 0 fl_X8_24 dX8_tick_16 rfl rfl (by decide) rfl (by decide) ?_
      refine V_iload_n 20 dX8_tick_19 rfl rfl ?_
      refine V_iadd 21 dX8_tick_20 rfl ?_
      refine V_ldc (v := 99999) 23 dX8_tick_21 rfl wc_X8_27 ?_
      refine V_icmp_le 29 26 dX8_tick_23 rfl rfl (fun c_23 => ?_) (fun c_23 => ?_)
      · skip
        refine V_aload_n 30 dX8_tick_29 rfl rfl ?_
        refine V_dup 31 dX8_tick_30 rfl ?_
        refine V_geti 34 8 0 fl_X8_24 dX8_tick_31 rfl rfl (by decide) rfl (by decide) ?_
        refine V_iload_n 35 dX8_tick_34 rfl rfl ?_
        refine V_iadd 36 dX8_tick_35 rfl ?_
        refine V_puti 39 8 0 fl_X8_24 dX8_tick_36 rfl rfl (by decide) rfl (by decide) (Or.inl rfl) ?_
        refine V_aload_n 40 dX8_tick_39 rfl rfl ?_
        refine V_geti 43 8 0 fl_X8_24 dX8_tick_40 rfl rfl (by decide) rfl (by decide) ?_
        refine V_iret dX8_tick_43 rfl rfl ⟨_, rfl, ?_⟩ (by first | exact Nat.le_refl _ | decide | omega) (by first | exact Nat.le_refl _ | decide | omega)
        exact Or.inr (Or.inr ⟨rfl, rfl, by grind⟩)
      · skip
        refine V_bipush (v := (-3)) 28 dX8_tick_26 rfl (by decide) ?_
        refine V_iret dX8_tick_28 rfl rfl ⟨_, rfl, ?_⟩ (by first | exact Nat.le_refl _ | decide | omega) (by first | exact Nat.le_refl _ | decide | omega)
        exact Or.inr (Or.inl ⟨rfl, rfl, by grind⟩)
    · skip
      refine V_bipush (v := (-2)) 14 dX8_tick_12 rfl (by decide) ?_
      refine V_iret dX8_tick_14 rfl rfl ⟨_, rfl, ?_⟩ (by first | exact Nat.le_refl _ | decide | omega) (by first | exact Nat.le_refl _ | decide | omega)
      exact Or.inl ⟨rfl, rfl, by grind⟩
/-- the chain -/
theorem lp_X8_lies0 {R : Room} {n0 : Nat → Nat} {Post : Option qV → qH → Prop} {b : Nat} (hb : b < 2 ^ 31) (hP : Post (some (.inl 0)) h) : Vw yX8_lies cX8_lies 4 (some .boolean) R 0 0 n0 Post 2 [(0, .inr (.inr (some (33, 0)))), (2, .inl (nI b)), (3, .inl (-1))] [] h 0 0 := by
  have hb1 := nI_ne_m1 hb
  refine V_iload_n 3 dX8_lies_2 rfl rfl ?_
  refine V_iconst (v := (-1)) 4 dX8_lies_3 rfl (by decide) ?_
  refine V_icmp_eq 22 7 dX8_lies_4 rfl rfl (fun c_4 => ?_) (fun c_4 => ?_)
  · skip
    refine V_iload_n 23 dX8_lies_22 rfl rfl ?_
    refine V_iload_n 24 dX8_lies_23 rfl rfl ?_
    refine V_icmp_ne 31 27 dX8_lies_24 rfl rfl (fun c_24 => ?_) (fun c_24 => ?_)
    · skip
      refine V_iconst (v := 0) 32 dX8_lies_31 rfl (by decide) ?_
      refine V_iret dX8_lies_32 rfl rfl ?_ (by first | exact Nat.le_refl _ | decide | omega) (by first | exact Nat.le_refl _ | decide | omega)
      exact hP
    · skip
      exact absurd c_24.symm hb1
  · skip
    exact absurd rfl c_4
theorem lp_X8_lies {na : Nat} (hS : SHR h) (hna : na ≤ 24) (hp : WI (qg_i h 35 0) na) {R : Room} {n0 : Nat → Nat} {Post : Option qV → qH → Prop} {b : Nat} (hb : b < na) :
    ∀ a : Nat, a < na → (Post (some (.inl (if ly (qg_i h 35 0) a b then 1 else 0))) h) → Vw yX8_lies cX8_lies 4 (some .boolean) R 0 0 n0 Post 2 [(0, .inr (.inr (some (33, 0)))), (2, .inl (nI b)), (3, .inl (nI a))] [] h 0 0 := by
  intro a
  induction a using Nat.strongRecOn with
  | _ a ih =>
    intro ha hP
    have ha1 := nI_ne_m1 (show a < 2 ^ 31 by omega)
    have e1 : nI a = nI b ↔ a = b := nI_eq (by omega) (by omega)
    refine V_iload_n 3 dX8_lies_2 rfl rfl ?_
    refine V_iconst (v := (-1)) 4 dX8_lies_3 rfl (by decide) ?_
    refine V_icmp_eq 22 7 dX8_lies_4 rfl rfl (fun c_4 => ?_) (fun c_4 => ?_)
    · skip
      exact absurd c_4 ha1
    · skip
      refine V_iload_n 8 dX8_lies_7 rfl rfl ?_
      refine V_iload_n 9 dX8_lies_8 rfl rfl ?_
      refine V_icmp_eq 22 12 dX8_lies_9 rfl rfl (fun c_9 => ?_) (fun c_9 => ?_)
      · skip
        have hab : a = b := e1.mp c_9
        subst hab
        rw [ly_self] at hP
        refine V_iload_n 23 dX8_lies_22 rfl rfl ?_
        refine V_iload_n 24 dX8_lies_23 rfl rfl ?_
        refine V_icmp_ne 31 27 dX8_lies_24 rfl rfl (fun c_24 => ?_) (fun c_24 => ?_)
        · skip
          exact absurd c_9 c_24
        · skip
          refine V_iconst (v := 1) 28 dX8_lies_27 rfl (by decide) ?_
          refine V_goto 32 dX8_lies_28 rfl ?_
          refine V_iret dX8_lies_32 rfl rfl ?_ (by first | exact Nat.le_refl _ | decide | omega) (by first | exact Nat.le_refl _ | decide | omega)
          exact hP
      · skip
        have hab : a ≠ b := fun q => c_9 (e1.mpr q)
        refine V_aload_n 13 dX8_lies_12 rfl rfl ?_
        refine V_getR 16 8 3 fl_X8_18 dX8_lies_13 rfl rfl (by decide) (Or.inr ⟨_, rfl⟩) (by decide) (sr_3 hS) ?_
        refine V_iload_n 17 dX8_lies_16 rfl rfl ?_
        refine V_ialdN 18 (_) dX8_lies_17 rfl rfl (by decide) rfl (show _ < 24 by omega) (by decide) ?_
        refine V_istore_n 19 dX8_lies_18 rfl (by decide) ?_
        refine V_goto 2 dX8_lies_19 rfl ?_
        rcases hp a ha with e | ⟨c, hc, e⟩
        · rw [ly_none e hab] at hP
          rw [e]
          exact V_at (lp_X8_lies0 (by omega) hP) ⟨rfl, rfl, rfl, trivial⟩
        · rw [ly_some (by omega) hp ha hc e hab] at hP
          rw [e]
          exact V_at (ih c hc (by omega) hP) ⟨rfl, rfl, rfl, trivial⟩
theorem ct_X8_lies {na : Nat} (hS : SHR h) (hna : na ≤ 24) (hp : WI (qg_i h 35 0) na) {a b : Nat} (ha : a < na) (hb : b < na) : qM yX8_lies cX8_lies 4 (some .boolean) 0 0 0 0 [.inr (.inr (some (33, 0))), .inl (nI a), .inl (nI b)] h (pI fun x h' => x = (if ly (qg_i h 35 0) a b then 1 else 0) ∧ h' = h) := by
  refine qM.of (plainFor_of_name (by decide)) (Nat.le_of_ble_eq_true rfl) ?_
  refine V_iload_n 1 dX8_lies_0 rfl rfl ?_
  refine V_istore_n 2 dX8_lies_1 rfl (by decide) ?_
  exact V_at (lp_X8_lies hS hna hp hb a ha ⟨_, rfl, rfl, rfl⟩) ⟨rfl, rfl, rfl, trivial⟩
/-- is a hold open, by its minute and whether it is gone -/
def m_open (h : qH) (j : Nat) : Bool := qg_i h 45 0 j = 0 && qg_i h 33 0 0 < qg_i h 44 0 j + 60
theorem ct_X8_isOpen {nh : Nat} (hS : SHR h) (e : qg_i h 33 0 10 = nI nh) (hnh : nh ≤ 200) {a : Nat} (ha : a < nh) : qM yX8_isOpen cX8_isOpen 2 (some .boolean) 0 0 0 0 [.inr (.inr (some (33, 0))), .inl (nI a)] h (pI fun x h' => x = (if m_open h a then 1 else 0) ∧ h' = h) := by
  refine qM.of (plainFor_of_name (by decide)) (Nat.le_of_ble_eq_true rfl) ?_
  refine V_iload_n 1 dX8_isOpen_0 rfl rfl ?_
  refine V_if_lt 41 4 dX8_isOpen_1 rfl rfl (fun c_1 => ?_) (fun c_1 => ?_)
  · skip
    exact absurd c_1 (nI_pos (by omega))
  · skip
    refine V_iload_n 5 dX8_isOpen_4 rfl rfl ?_
    refine V_aload_n 6 dX8_isOpen_5 rfl rfl ?_
    refine V_geti 9 8 10 fl_X8_81 dX8_isOpen_6 rfl rfl (by decide) rfl (by decide) ?_
    rw [e]
    refine V_icmp_ge 41 12 dX8_isOpen_9 rfl rfl (fun c_9 => ?_) (fun c_9 => ?_)
    · skip
      exact absurd c_9 (nI_ge ha (by omega))
    · skip
      refine V_aload_n 13 dX8_isOpen_12 rfl rfl ?_
      refine V_getR 16 8 15 fl_X8_84 dX8_isOpen_13 rfl rfl (by decide) (Or.inr ⟨_, rfl⟩) (by decide) (sr_15 hS) ?_
      refine V_iload_n 17 dX8_isOpen_16 rfl rfl ?_
      refine V_zaldN 18 (_) dX8_isOpen_17 rfl rfl (by decide) rfl (show _ < 200 by omega) (by decide) ?_
      refine V_if_ne 41 21 dX8_isOpen_18 rfl rfl (fun c_18 => ?_) (fun c_18 => ?_)
      · skip
        refine V_iconst (v := 0) 42 dX8_isOpen_41 rfl (by decide) ?_
        refine V_iret dX8_isOpen_42 rfl rfl ⟨_, rfl, ?_⟩ (by first | exact Nat.le_refl _ | decide | omega) (by first | exact Nat.le_refl _ | decide | omega)
        exact ⟨by unfold m_open; split <;> first | rfl | grind, rfl⟩
      · skip
        refine V_aload_n 22 dX8_isOpen_21 rfl rfl ?_
        refine V_geti 25 8 0 fl_X8_24 dX8_isOpen_22 rfl rfl (by decide) rfl (by decide) ?_
        refine V_aload_n 26 dX8_isOpen_25 rfl rfl ?_
        refine V_getR 29 8 14 fl_X8_88 dX8_isOpen_26 rfl rfl (by decide) (Or.inr ⟨_, rfl⟩) (by decide) (sr_14 hS) ?_
        refine V_iload_n 30 dX8_isOpen_29 rfl rfl ?_
        refine V_ialdN 31 (_) dX8_isOpen_30 rfl rfl (by decide) rfl (show _ < 200 by omega) (by decide) ?_
        refine V_bipush (v := 60) 33 dX8_isOpen_31 rfl (by decide) ?_
        refine V_iadd 34 dX8_isOpen_33 rfl ?_
        refine V_icmp_ge 41 37 dX8_isOpen_34 rfl rfl (fun c_34 => ?_) (fun c_34 => ?_)
        · skip
          refine V_iconst (v := 0) 42 dX8_isOpen_41 rfl (by decide) ?_
          refine V_iret dX8_isOpen_42 rfl rfl ⟨_, rfl, ?_⟩ (by first | exact Nat.le_refl _ | decide | omega) (by first | exact Nat.le_refl _ | decide | omega)
          exact ⟨by unfold m_open; split <;> first | rfl | grind, rfl⟩
        · skip
          refine V_iconst (v := 1) 38 dX8_isOpen_37 rfl (by decide) ?_
          refine V_goto 42 dX8_isOpen_38 rfl ?_
          refine V_iret dX8_isOpen_42 rfl rfl ⟨_, rfl, ?_⟩ (by first | exact Nat.le_refl _ | decide | omega) (by first | exact Nat.le_refl _ | decide | omega)
          exact ⟨by unfold m_open; split <;> first | rfl | grind, rfl⟩
theorem ct_X8_isOpen_no {nh : Nat} (hS : SHR h) (e : qg_i h 33 0 10 = nI nh) (hnh : nh ≤ 200) {a : Int32} (ha : a < 0 ∨ nI nh ≤ a) : qM yX8_isOpen cX8_isOpen 2 (some .boolean) 0 0 0 0 [.inr (.inr (some (33, 0))), .inl a] h (pI fun x h' => x = 0 ∧ h' = h) := by
  refine qM.of (plainFor_of_name (by decide)) (Nat.le_of_ble_eq_true rfl) ?_
  refine V_iload_n 1 dX8_isOpen_0 rfl rfl ?_
  refine V_if_lt 41 4 dX8_isOpen_1 rfl rfl (fun c_1 => ?_) (fun c_1 => ?_)
  · skip
    refine V_iconst (v := 0) 42 dX8_isOpen_41 rfl (by decide) ?_
    refine V_iret dX8_isOpen_42 rfl rfl ⟨_, rfl, ?_⟩ (by first | exact Nat.le_refl _ | decide | omega) (by first | exact Nat.le_refl _ | decide | omega)
    exact ⟨rfl, rfl⟩
  · skip
    refine V_iload_n 5 dX8_isOpen_4 rfl rfl ?_
    refine V_aload_n 6 dX8_isOpen_5 rfl rfl ?_
    refine V_geti 9 8 10 fl_X8_81 dX8_isOpen_6 rfl rfl (by decide) rfl (by decide) ?_
    rw [e]
    refine V_icmp_ge 41 12 dX8_isOpen_9 rfl rfl (fun c_9 => ?_) (fun c_9 => ?_)
    · skip
      refine V_iconst (v := 0) 42 dX8_isOpen_41 rfl (by decide) ?_
      refine V_iret dX8_isOpen_42 rfl rfl ⟨_, rfl, ?_⟩ (by first | exact Nat.le_refl _ | decide | omega) (by first | exact Nat.le_refl _ | decide | omega)
      exact ⟨rfl, rfl⟩
    · skip
      grind
/-- how many are open -/
def m_open1 (h : qH) (j : Nat) : Int32 := if m_open h j then 1 else 0
theorem lp_X8_open {nh : Nat} (hS : SHR h) (e : qg_i h 33 0 10 = nI nh) (hnh : nh ≤ 200) {n0 : Nat → Nat} {Post : Option qV → qH → Prop} (hP : Post (some (.inl (sm_i (m_open1 h) nh))) h) :
    ∀ (m i : Nat), i + m = nh → Vw yX8_open cX8_open 3 (some .int) (qrm 1 21 0 0) 0 0 n0 Post 4 [(0, .inr (.inr (some (33, 0)))), (1, .inl (sm_i (m_open1 h) i)), (2, .inl (nI i))] [] h 0 0 := by
  intro m
  induction m with
  | zero =>
    intro i hi
    have hi : i = nh := by omega
    subst hi
    refine V_iload_n 5 dX8_open_4 rfl rfl ?_
    refine V_aload_n 6 dX8_open_5 rfl rfl ?_
    refine V_geti 9 8 10 fl_X8_81 dX8_open_6 rfl rfl (by decide) rfl (by decide) ?_
    rw [e]
    refine V_icmp_ge 34 12 dX8_open_9 rfl rfl (fun c_9 => ?_) (fun c_9 => ?_)
    · skip
      refine V_iload_n 35 dX8_open_34 rfl rfl ?_
      refine V_iret dX8_open_35 rfl rfl ?_ (by first | exact Nat.le_refl _ | decide | omega) (by first | exact Nat.le_refl _ | decide | omega)
      exact hP
    · skip
      exact absurd (nI_le (Nat.le_refl _) (by omega)) c_9
  | succ m ih =>
    intro i hi
    refine V_iload_n 5 dX8_open_4 rfl rfl ?_
    refine V_aload_n 6 dX8_open_5 rfl rfl ?_
    refine V_geti 9 8 10 fl_X8_81 dX8_open_6 rfl rfl (by decide) rfl (by decide) ?_
    rw [e]
    refine V_icmp_ge 34 12 dX8_open_9 rfl rfl (fun c_9 => ?_) (fun c_9 => ?_)
    · skip
      exact absurd c_9 (nI_ge (by omega) (by omega))
    · skip
      refine V_iload_n 13 dX8_open_12 rfl rfl ?_
      refine V_aload_n 14 dX8_open_13 rfl rfl ?_
      refine V_iload_n 15 dX8_open_14 rfl rfl ?_
      refine V_cV1i 18 (ct_X8_isOpen hS e hnh (by omega)) cs_X8_91 rfl rfl (by decide) dX8_open_15 rfl ⟨Nat.le_of_ble_eq_true rfl, Nat.le_of_ble_eq_true rfl⟩ (Nat.le_of_ble_eq_true rfl) ⟨Nat.le_of_ble_eq_true rfl, Nat.le_of_ble_eq_true rfl⟩ (fun x h' hx hle => ?_)
      obtain ⟨rfl, rfl⟩ := hx
      refine V_if_eq 25 21 dX8_open_18 rfl rfl (fun c_18 => ?_) (fun c_18 => ?_)
      · skip
        refine V_iconst (v := 0) 26 dX8_open_25 rfl (by decide) ?_
        refine V_iadd 27 dX8_open_26 rfl ?_
        refine V_istore_n 28 dX8_open_27 rfl (by decide) ?_
        refine V_iincN 31 dX8_open_28 rfl rfl (by decide) ?_
        refine V_goto 4 dX8_open_31 rfl ?_
        refine V_at (ih (i + 1) (by omega)) ⟨rfl, ?_, rfl, trivial⟩
        show some _ = some _
        simp only [sm_i, m_open1]
        grind
      · skip
        refine V_iconst (v := 1) 22 dX8_open_21 rfl (by decide) ?_
        refine V_goto 26 dX8_open_22 rfl ?_
        refine V_iadd 27 dX8_open_26 rfl ?_
        refine V_istore_n 28 dX8_open_27 rfl (by decide) ?_
        refine V_iincN 31 dX8_open_28 rfl rfl (by decide) ?_
        refine V_goto 4 dX8_open_31 rfl ?_
        refine V_at (ih (i + 1) (by omega)) ⟨rfl, ?_, rfl, trivial⟩
        show some _ = some _
        simp only [sm_i, m_open1]
        grind
theorem ct_X8_open {nh : Nat} (hS : SHR h) (e : qg_i h 33 0 10 = nI nh) (hnh : nh ≤ 200) : qM yX8_open cX8_open 3 (some .int) 1 21 0 0 [.inr (.inr (some (33, 0)))] h (pI fun x h' => x = sm_i (m_open1 h) nh ∧ h' = h) := by
  refine qM.of (plainFor_of_name (by decide)) (Nat.le_of_ble_eq_true rfl) ?_
  refine V_iconst (v := 0) 1 dX8_open_0 rfl (by decide) ?_
  refine V_istore_n 2 dX8_open_1 rfl (by decide) ?_
  refine V_iconst (v := 0) 3 dX8_open_2 rfl (by decide) ?_
  refine V_istore_n 4 dX8_open_3 rfl (by decide) ?_
  exact V_at (lp_X8_open hS e hnh ⟨_, rfl, rfl, rfl⟩ nh 0 (by omega)) ⟨rfl, rfl, rfl, trivial⟩
end RF
end
section
/-! The reference: what is used, held, free; limits; holds -/
section RG
variable {h : qH}
theorem ct_isAcc_ok {na a : Nat} (e : qg_i h 33 0 1 = nI na) (hna : na ≤ 24) (ha : a < na) : qM yX8_isAccount cX8_isAccount 2 ((some .boolean)) 0 0 0 0 [.inr (.inr (some (33, 0))), .inl (nI a)] h (pI fun x h' => x = 1 ∧ h' = h) := by
  refine (ct_X8_isAccount h (nI a)).weak ?_
  rintro v h' ⟨x, rfl, rfl, rfl⟩
  refine ⟨_, rfl, if_pos ⟨nI_pos' (by omega), ?_⟩, rfl⟩
  rw [e]
  exact nI_lt ha (by omega)
theorem ct_isRes_ok {r : Nat} (hr : r < 4) : qM yX8_isResource cX8_isResource 1 ((some .boolean)) 0 0 0 0 [.inl (nI r)] h (pI fun x h' => x = 1 ∧ h' = h) := by
  refine (ct_X8_isResource h (nI r)).weak ?_
  rintro v h' ⟨x, rfl, rfl, rfl⟩
  exact ⟨_, rfl, if_pos ⟨nI_pos' (by omega), nI_lt (b := 4) hr (by omega)⟩, rfl⟩
theorem ct_isTen_ok {r : Nat} (hr : r < 6) : qM yX8_isTenant cX8_isTenant 1 ((some .boolean)) 0 0 0 0 [.inl (nI r)] h (pI fun x h' => x = 1 ∧ h' = h) := by
  refine (ct_X8_isTenant h (nI r)).weak ?_
  rintro v h' ⟨x, rfl, rfl, rfl⟩
  exact ⟨_, rfl, if_pos ⟨nI_pos' (by omega), nI_lt (b := 6) hr (by omega)⟩, rfl⟩
/-- what account a has used of r in p -/
def m_used (h : qH) (na b r p : Nat) : Int64 := sm_l (fun a => if ly (qg_i h 35 0) a b then qg_l h 37 0 ((4 * a + r) * 100 + p) else 0) na
theorem lp_X8_usedOf {na b r p : Nat} (hS : SHR h) (e : qg_i h 33 0 1 = nI na) (hna : na ≤ 24) (hp : WI (qg_i h 35 0) na) (hb : b < na) (hr : r < 4) (hpp : p < 100) {n0 : Nat → Nat} {Post : Option qV → qH → Prop} (hP : Post (some (.inr (.inl (m_used h na b r p)))) h) :
    ∀ (m i : Nat), i + m = na → Vw yX8_usedOf cX8_usedOf 7 ((some .long)) (qrm 1 23 0 0) 0 0 n0 Post 6 [(0, .inr (.inr (some (33, 0)))), (1, .inl (nI b)), (2, .inl (nI r)), (3, .inl (nI p)), (4, .inr (.inl (m_used h i b r p))), (6, .inl (nI i))] [] h 0 0 := by
  intro m
  induction m with
  | zero =>
    intro i hi
    have hi : i = na := by omega
    subst hi
    refine V_iload 8 dX8_usedOf_6 rfl rfl ?_
    refine V_aload_n 9 dX8_usedOf_8 rfl rfl ?_
    refine V_geti 12 8 1 fl_X8_3 dX8_usedOf_9 rfl rfl (by decide) rfl (by decide) ?_
    rw [e]
    refine V_icmp_ge 52 15 dX8_usedOf_12 rfl rfl (fun c_12 => ?_) (fun c_12 => ?_)
    · skip
      refine V_lload 54 dX8_usedOf_52 rfl rfl ?_
      refine V_lret dX8_usedOf_54 rfl ?_ (by first | exact Nat.le_refl _ | decide | omega) (by first | exact Nat.le_refl _ | decide | omega)
      exact hP
    · skip
      exact absurd (nI_le (Nat.le_refl _) (by omega)) c_12
  | succ m ih =>
    intro i hi
    refine V_iload 8 dX8_usedOf_6 rfl rfl ?_
    refine V_aload_n 9 dX8_usedOf_8 rfl rfl ?_
    refine V_geti 12 8 1 fl_X8_3 dX8_usedOf_9 rfl rfl (by decide) rfl (by decide) ?_
    rw [e]
    refine V_icmp_ge 52 15 dX8_usedOf_12 rfl rfl (fun c_12 => ?_) (fun c_12 => ?_)
    · skip
      exact absurd c_12 (nI_ge (by omega) (by omega))
    · skip
      refine V_lload 17 dX8_usedOf_15 rfl rfl ?_
      refine V_aload_n 18 dX8_usedOf_17 rfl rfl ?_
      refine V_iload 20 dX8_usedOf_18 rfl rfl ?_
      refine V_iload_n 21 dX8_usedOf_20 rfl rfl ?_
      refine V_cV2i 24 (ct_X8_lies hS hna hp (show i < na by omega) hb) cs_X8_77 rfl rfl (by decide) dX8_usedOf_21 rfl ⟨Nat.le_of_ble_eq_true rfl, Nat.le_of_ble_eq_true rfl⟩ (Nat.le_of_ble_eq_true rfl) ⟨Nat.le_of_ble_eq_true rfl, Nat.le_of_ble_eq_true rfl⟩ (fun x h' hx hle => ?_)
      obtain ⟨rfl, rfl⟩ := hx
      refine V_if_eq 42 27 dX8_usedOf_24 rfl rfl (fun c_24 => ?_) (fun c_24 => ?_)
      · skip
        refine V_lconst (v := 0) 43 dX8_usedOf_42 rfl (by decide) ?_
        refine V_ladd 44 dX8_usedOf_43 rfl ?_
        refine V_lstore 46 dX8_usedOf_44 rfl (by decide) ?_
        refine V_iincN 49 dX8_usedOf_46 rfl rfl (by decide) ?_
        refine V_goto 6 dX8_usedOf_49 rfl ?_
        refine V_at (ih (i + 1) (by omega)) ⟨rfl, rfl, rfl, rfl, ?_, rfl, trivial⟩
        show some _ = some _
        simp only [m_used, sm_l]
        grind
      · skip
        refine V_aload_n 28 dX8_usedOf_27 rfl rfl ?_
        refine V_getR 31 8 5 fl_X8_56 dX8_usedOf_28 rfl rfl (by decide) (Or.inr ⟨_, rfl⟩) (by decide) (sr_5 hS) ?_
        refine V_iload 33 dX8_usedOf_31 rfl rfl ?_
        refine V_iload_n 34 dX8_usedOf_33 rfl rfl ?_
        refine V_iload_n 35 dX8_usedOf_34 rfl rfl ?_
        refine V_cS3i 38 (ct_X8_cell _ _ _ _) cs_X8_59 dX8_usedOf_35 rfl ⟨Nat.le_of_ble_eq_true rfl, Nat.le_of_ble_eq_true rfl⟩ (Nat.le_of_ble_eq_true rfl) ⟨Nat.le_of_ble_eq_true rfl, Nat.le_of_ble_eq_true rfl⟩ (fun x h' hx hle => ?_)
        obtain ⟨rfl, rfl⟩ := hx
        refine V_laldN 39 (_) dX8_usedOf_38 rfl rfl (by decide) rfl (show _ < 9600 by omega) (by decide) ?_
        refine V_goto 43 dX8_usedOf_39 rfl ?_
        refine V_ladd 44 dX8_usedOf_43 rfl ?_
        refine V_lstore 46 dX8_usedOf_44 rfl (by decide) ?_
        refine V_iincN 49 dX8_usedOf_46 rfl rfl (by decide) ?_
        refine V_goto 6 dX8_usedOf_49 rfl ?_
        refine V_at (ih (i + 1) (by omega)) ⟨rfl, rfl, rfl, rfl, ?_, rfl, trivial⟩
        show some _ = some _
        simp only [m_used, sm_l]
        grind
theorem ct_X8_usedOf {na b r p : Nat} (hS : SHR h) (e : qg_i h 33 0 1 = nI na) (hna : na ≤ 24) (hp : WI (qg_i h 35 0) na) (hb : b < na) (hr : r < 4) (hpp : p < 100) : qM yX8_usedOf cX8_usedOf 7 ((some .long)) 1 23 0 0 [.inr (.inr (some (33, 0))), .inl (nI b), .inl (nI r), .inl (nI p)] h (pL fun x h' => x = m_used h na b r p ∧ h' = h) := by
  refine qM.of (plainFor_of_name (by decide)) (Nat.le_of_ble_eq_true rfl) ?_
  refine V_lconst (v := 0) 1 dX8_usedOf_0 rfl (by decide) ?_
  refine V_lstore 3 dX8_usedOf_1 rfl (by decide) ?_
  refine V_iconst (v := 0) 4 dX8_usedOf_3 rfl (by decide) ?_
  refine V_istore 6 dX8_usedOf_4 rfl (by decide) ?_
  exact V_at (lp_X8_usedOf hS e hna hp hb hr hpp ⟨_, rfl, rfl, rfl⟩ na 0 (by omega)) ⟨rfl, rfl, rfl, rfl, rfl, rfl, trivial⟩
/-- the accounts of the holds -/
def WH (h : qH) (na nh : Nat) : Prop := ∀ j, j < nh → ∃ a, a < na ∧ qg_i h 41 0 j = nI a
def m_held1 (h : qH) (b : Nat) (r : Int32) (j : Nat) : Int32 := if m_open h j && qg_i h 42 0 j = r && ly (qg_i h 35 0) (qg_i h 41 0 j).toNatClampNeg b then qg_i h 43 0 j else 0
def m_held (h : qH) (nh b : Nat) (r : Int32) : Int32 := sm_i (m_held1 h b r) nh
theorem lp_X8_heldOf {na nh b : Nat} {r : Int32} (hS : SHR h) (hna : na ≤ 24) (hp : WI (qg_i h 35 0) na) (e : qg_i h 33 0 10 = nI nh) (hnh : nh ≤ 200) (hH : WH h na nh) (hb : b < na) {n0 : Nat → Nat} {Post : Option qV → qH → Prop} (hP : Post (some (.inl (m_held h nh b r))) h) :
    ∀ (m i : Nat), i + m = nh → Vw yX8_heldOf cX8_heldOf 5 ((some .int)) (qrm 1 23 0 0) 0 0 n0 Post 5 [(0, .inr (.inr (some (33, 0)))), (1, .inl (nI b)), (2, .inl r), (3, .inl (m_held h i b r)), (4, .inl (nI i))] [] h 0 0 := by
  intro m
  induction m with
  | zero =>
    intro i hi
    have hi : i = nh := by omega
    subst hi
    refine V_iload 7 dX8_heldOf_5 rfl rfl ?_
    refine V_aload_n 8 dX8_heldOf_7 rfl rfl ?_
    refine V_geti 11 8 10 fl_X8_81 dX8_heldOf_8 rfl rfl (by decide) rfl (by decide) ?_
    rw [e]
    refine V_icmp_ge 69 14 dX8_heldOf_11 rfl rfl (fun c_11 => ?_) (fun c_11 => ?_)
    · skip
      refine V_iload_n 70 dX8_heldOf_69 rfl rfl ?_
      refine V_iret dX8_heldOf_70 rfl rfl ?_ (by first | exact Nat.le_refl _ | decide | omega) (by first | exact Nat.le_refl _ | decide | omega)
      exact hP
    · skip
      exact absurd (nI_le (Nat.le_refl _) (by omega)) c_11
  | succ m ih =>
    intro i hi
    obtain ⟨a, ha, ea⟩ := hH i (by omega)
    have ecl : (qg_i h 41 0 i).toNatClampNeg = a := by rw [ea, nI_clamp (by omega)]
    refine V_iload 7 dX8_heldOf_5 rfl rfl ?_
    refine V_aload_n 8 dX8_heldOf_7 rfl rfl ?_
    refine V_geti 11 8 10 fl_X8_81 dX8_heldOf_8 rfl rfl (by decide) rfl (by decide) ?_
    rw [e]
    refine V_icmp_ge 69 14 dX8_heldOf_11 rfl rfl (fun c_11 => ?_) (fun c_11 => ?_)
    · skip
      exact absurd c_11 (nI_ge (by omega) (by omega))
    · skip
      refine V_iload_n 15 dX8_heldOf_14 rfl rfl ?_
      refine V_aload_n 16 dX8_heldOf_15 rfl rfl ?_
      refine V_iload 18 dX8_heldOf_16 rfl rfl ?_
      refine V_cV1i 21 (ct_X8_isOpen hS e hnh (by omega)) cs_X8_91 rfl rfl (by decide) dX8_heldOf_18 rfl ⟨Nat.le_of_ble_eq_true rfl, Nat.le_of_ble_eq_true rfl⟩ (Nat.le_of_ble_eq_true rfl) ⟨Nat.le_of_ble_eq_true rfl, Nat.le_of_ble_eq_true rfl⟩ (fun x h' hx hle => ?_)
      obtain ⟨rfl, rfl⟩ := hx
      refine V_if_eq 60 24 dX8_heldOf_21 rfl rfl (fun c_21 => ?_) (fun c_21 => ?_)
      · skip
        refine V_iconst (v := 0) 61 dX8_heldOf_60 rfl (by decide) ?_
        refine V_iadd 62 dX8_heldOf_61 rfl ?_
        refine V_istore_n 63 dX8_heldOf_62 rfl (by decide) ?_
        refine V_iincN 66 dX8_heldOf_63 rfl rfl (by decide) ?_
        refine V_goto 5 dX8_heldOf_66 rfl ?_
        refine V_at (ih (i + 1) (by omega)) ⟨rfl, rfl, rfl, ?_, rfl, trivial⟩
        show some _ = some _
        simp only [m_held, sm_i, m_held1, ecl]
        grind
      · skip
        refine V_aload_n 25 dX8_heldOf_24 rfl rfl ?_
        refine V_getR 28 8 12 fl_X8_98 dX8_heldOf_25 rfl rfl (by decide) (Or.inr ⟨_, rfl⟩) (by decide) (sr_12 hS) ?_
        refine V_iload 30 dX8_heldOf_28 rfl rfl ?_
        refine V_ialdN 31 (_) dX8_heldOf_30 rfl rfl (by decide) rfl (show _ < 200 by omega) (by decide) ?_
        refine V_iload_n 32 dX8_heldOf_31 rfl rfl ?_
        refine V_icmp_ne 60 35 dX8_heldOf_32 rfl rfl (fun c_32 => ?_) (fun c_32 => ?_)
        · skip
          refine V_iconst (v := 0) 61 dX8_heldOf_60 rfl (by decide) ?_
          refine V_iadd 62 dX8_heldOf_61 rfl ?_
          refine V_istore_n 63 dX8_heldOf_62 rfl (by decide) ?_
          refine V_iincN 66 dX8_heldOf_63 rfl rfl (by decide) ?_
          refine V_goto 5 dX8_heldOf_66 rfl ?_
          refine V_at (ih (i + 1) (by omega)) ⟨rfl, rfl, rfl, ?_, rfl, trivial⟩
          show some _ = some _
          simp only [m_held, sm_i, m_held1, ecl]
          grind
        · skip
          refine V_aload_n 36 dX8_heldOf_35 rfl rfl ?_
          refine V_aload_n 37 dX8_heldOf_36 rfl rfl ?_
          refine V_getR 40 8 11 fl_X8_101 dX8_heldOf_37 rfl rfl (by decide) (Or.inr ⟨_, rfl⟩) (by decide) (sr_11 hS) ?_
          refine V_iload 42 dX8_heldOf_40 rfl rfl ?_
          refine V_ialdN 43 (_) dX8_heldOf_42 rfl rfl (by decide) rfl (show _ < 200 by omega) (by decide) ?_
          rw [ea]
          refine V_iload_n 44 dX8_heldOf_43 rfl rfl ?_
          refine V_cV2i 47 (ct_X8_lies hS hna hp ha hb) cs_X8_77 rfl rfl (by decide) dX8_heldOf_44 rfl ⟨Nat.le_of_ble_eq_true rfl, Nat.le_of_ble_eq_true rfl⟩ (Nat.le_of_ble_eq_true rfl) ⟨Nat.le_of_ble_eq_true rfl, Nat.le_of_ble_eq_true rfl⟩ (fun x h' hx hle => ?_)
          obtain ⟨rfl, rfl⟩ := hx
          refine V_if_eq 60 50 dX8_heldOf_47 rfl rfl (fun c_47 => ?_) (fun c_47 => ?_)
          · skip
            refine V_iconst (v := 0) 61 dX8_heldOf_60 rfl (by decide) ?_
            refine V_iadd 62 dX8_heldOf_61 rfl ?_
            refine V_istore_n 63 dX8_heldOf_62 rfl (by decide) ?_
            refine V_iincN 66 dX8_heldOf_63 rfl rfl (by decide) ?_
            refine V_goto 5 dX8_heldOf_66 rfl ?_
            refine V_at (ih (i + 1) (by omega)) ⟨rfl, rfl, rfl, ?_, rfl, trivial⟩
            show some _ = some _
            simp only [m_held, sm_i, m_held1, ecl]
            grind
          · skip
            refine V_aload_n 51 dX8_heldOf_50 rfl rfl ?_
            refine V_getR 54 8 13 fl_X8_104 dX8_heldOf_51 rfl rfl (by decide) (Or.inr ⟨_, rfl⟩) (by decide) (sr_13 hS) ?_
            refine V_iload 56 dX8_heldOf_54 rfl rfl ?_
            refine V_ialdN 57 (_) dX8_heldOf_56 rfl rfl (by decide) rfl (show _ < 200 by omega) (by decide) ?_
            refine V_goto 61 dX8_heldOf_57 rfl ?_
            refine V_iadd 62 dX8_heldOf_61 rfl ?_
            refine V_istore_n 63 dX8_heldOf_62 rfl (by decide) ?_
            refine V_iincN 66 dX8_heldOf_63 rfl rfl (by decide) ?_
            refine V_goto 5 dX8_heldOf_66 rfl ?_
            refine V_at (ih (i + 1) (by omega)) ⟨rfl, rfl, rfl, ?_, rfl, trivial⟩
            show some _ = some _
            simp only [m_held, sm_i, m_held1, ecl]
            grind
theorem ct_X8_heldOf {na nh b : Nat} {r : Int32} (hS : SHR h) (hna : na ≤ 24) (hp : WI (qg_i h 35 0) na) (e : qg_i h 33 0 10 = nI nh) (hnh : nh ≤ 200) (hH : WH h na nh) (hb : b < na) : qM yX8_heldOf cX8_heldOf 5 ((some .int)) 1 23 0 0 [.inr (.inr (some (33, 0))), .inl (nI b), .inl r] h (pI fun x h' => x = m_held h nh b r ∧ h' = h) := by
  refine qM.of (plainFor_of_name (by decide)) (Nat.le_of_ble_eq_true rfl) ?_
  refine V_iconst (v := 0) 1 dX8_heldOf_0 rfl (by decide) ?_
  refine V_istore_n 2 dX8_heldOf_1 rfl (by decide) ?_
  refine V_iconst (v := 0) 3 dX8_heldOf_2 rfl (by decide) ?_
  refine V_istore 5 dX8_heldOf_3 rfl (by decide) ?_
  exact V_at (lp_X8_heldOf hS hna hp e hnh hH hb ⟨_, rfl, rfl, rfl⟩ nh 0 (by omega)) ⟨rfl, rfl, rfl, rfl, rfl, trivial⟩
/-- what is free for account a: the least along the chain -/
def m_room1 (h : qH) (na nh p r a : Nat) (x : Int64) : Int64 := if qg_i h 36 0 (4 * a + r) = -1 then x else (let z := (qg_i h 36 0 (4 * a + r)).toInt64 - m_used h na a r p - (m_held h nh a (nI r)).toInt64; if z < x then z else x)
def m_room_n (h : qH) (na nh p r : Nat) : Nat → Nat → Int64 → Int64
  | 0, a, x => m_room1 h na nh p r a x
  | n + 1, a, x => if qg_i h 35 0 a = -1 then m_room1 h na nh p r a x else m_room_n h na nh p r n (qg_i h 35 0 a).toNatClampNeg (m_room1 h na nh p r a x)
def m_room (h : qH) (na nh p r a : Nat) : Int64 := m_room_n h na nh p r a a 1000000
theorem m_room_fuel {na nh p r N : Nat} (hN : N ≤ 2 ^ 31) (hp : WI (qg_i h 35 0) N) : ∀ (n m a : Nat), a < N → a ≤ n → a ≤ m → ∀ x, m_room_n h na nh p r n a x = m_room_n h na nh p r m a x := by
  intro n
  induction n with
  | zero =>
    intro m a haN h1 h2 x
    have : a = 0 := by omega
    subst this
    cases m with
    | zero => rfl
    | succ m =>
      have e : qg_i h 35 0 0 = -1 := by
        rcases hp 0 haN with e | ⟨c, hc, -⟩
        · exact e
        · omega
      simp [m_room_n, e]
  | succ n ih =>
    intro m a haN h1 h2 x
    cases m with
    | zero =>
      have : a = 0 := by omega
      subst this
      have e : qg_i h 35 0 0 = -1 := by
        rcases hp 0 haN with e | ⟨c, hc, -⟩
        · exact e
        · omega
      simp [m_room_n, e]
    | succ m =>
      rcases hp a haN with e | ⟨c, hc, e⟩
      · simp [m_room_n, e]
      · simp only [m_room_n, e, nI_clamp (show c < 2 ^ 31 by omega)]
        rw [ih m c (by omega) (by omega) (by omega)]
theorem m_room_none {na nh p r a : Nat} {x : Int64} (e : qg_i h 35 0 a = -1) : m_room_n h na nh p r a a x = m_room1 h na nh p r a x := by
  cases a <;> simp [m_room_n, e]
theorem m_room_some {na nh p r a c N : Nat} (hN : N ≤ 2 ^ 31) (hp : WI (qg_i h 35 0) N) {x : Int64} (ha : a < N) (hc : c < a) (e : qg_i h 35 0 a = nI c) : m_room_n h na nh p r a a x = m_room_n h na nh p r c c (m_room1 h na nh p r a x) := by
  cases a with
  | zero => omega
  | succ a =>
    simp only [m_room_n, e, nI_clamp (show c < 2 ^ 31 by omega), if_neg (nI_ne_m1 (show c < 2 ^ 31 by omega))]
    exact m_room_fuel hN hp a c c (by omega) (by omega) (Nat.le_refl _) _
theorem lp_X8_roomOf0 {n0 : Nat → Nat} {Post : Option qV → qH → Prop} {x : Int64} {L : List (Nat × qV)} (hP : Post (some (.inr (.inl x))) h) (h3 : qlk L 3 = some (.inr (.inl x))) (h5 : qlk L 5 = some (.inl (-1))) : Vw yX8_roomOf cX8_roomOf 6 ((some .long)) (qrm 2 49 0 0) 0 0 n0 Post 7 L [] h 0 0 := by
  refine V_iload 9 dX8_roomOf_7 rfl h5 ?_
  refine V_iconst (v := -1) 10 dX8_roomOf_9 rfl (by decide) ?_
  refine V_icmp_eq 82 13 dX8_roomOf_10 rfl rfl (fun c_10 => ?_) (fun c_10 => absurd rfl c_10)
  refine V_lload_n 83 dX8_roomOf_82 rfl h3 ?_
  exact V_lret dX8_roomOf_83 rfl hP (Nat.le_refl _) (Nat.le_refl _)
theorem lp_X8_roomOf {na nh r p : Nat} (hS : SHR h) (ea : qg_i h 33 0 1 = nI na) (hna : na ≤ 24) (hp : WI (qg_i h 35 0) na) (e : qg_i h 33 0 10 = nI nh) (hnh : nh ≤ 200) (hH : WH h na nh) (hr : r < 4) (hpp : p < 100) (enow : qg_i h 33 0 0 / 1000 = nI p) {n0 : Nat → Nat} {Post : Option qV → qH → Prop} :
    ∀ (a : Nat), a < na → ∀ x, Post (some (.inr (.inl (m_room_n h na nh p r a a x)))) h → Vw yX8_roomOf cX8_roomOf 6 ((some .long)) (qrm 2 49 0 0) 0 0 n0 Post 7 [(0, .inr (.inr (some (33, 0)))), (2, .inl (nI r)), (3, .inr (.inl x)), (5, .inl (nI a))] [] h 0 0 := by
  intro a
  induction a using Nat.strongRecOn with
  | _ a ih =>
    intro ha x hP
    have e4 : (4 : Int32) * nI a + nI r = nI (4 * a + r) := by rw [show (4 : Int32) = nI 4 from rfl, pk_mul, nI_add]
    have fin : ∀ z, z = m_room1 h na nh p r a x → Vw yX8_roomOf cX8_roomOf 6 ((some .long)) (qrm 2 49 0 0) 0 0 n0 Post 70 [(0, .inr (.inr (some (33, 0)))), (2, .inl (nI r)), (3, .inr (.inl z)), (5, .inl (nI a))] [] h 0 0 := by
      intro z hz
      subst hz
      refine V_aload_n 71 dX8_roomOf_70 rfl rfl ?_
      refine V_getR 74 8 3 fl_X8_18 dX8_roomOf_71 rfl rfl (by decide) (Or.inr ⟨_, rfl⟩) (by decide) (sr_3 hS) ?_
      refine V_iload 76 dX8_roomOf_74 rfl rfl ?_
      refine V_ialdN 77 (_) dX8_roomOf_76 rfl rfl (by decide) rfl (show _ < 24 by omega) (by decide) ?_
      refine V_istore 79 dX8_roomOf_77 rfl (by decide) ?_
      refine V_goto 7 dX8_roomOf_79 rfl ?_
      rcases hp a ha with e5 | ⟨c, hc, e5⟩
      · rw [m_room_none e5] at hP
        rw [e5]
        exact lp_X8_roomOf0 hP rfl rfl
      · rw [m_room_some (by omega) hp ha hc e5] at hP
        rw [e5]
        exact V_at (ih c hc (by omega) _ hP) ⟨rfl, rfl, rfl, rfl, trivial⟩
    refine V_iload 9 dX8_roomOf_7 rfl rfl ?_
    refine V_iconst (v := (-1)) 10 dX8_roomOf_9 rfl (by decide) ?_
    refine V_icmp_eq 82 13 dX8_roomOf_10 rfl rfl (fun c_10 => ?_) (fun c_10 => ?_)
    · skip
      exact absurd c_10 (nI_ne_m1 (by omega))
    · skip
      refine V_aload_n 14 dX8_roomOf_13 rfl rfl ?_
      refine V_getR 17 8 4 fl_X8_21 dX8_roomOf_14 rfl rfl (by decide) (Or.inr ⟨_, rfl⟩) (by decide) (sr_4 hS) ?_
      refine V_iconst (v := 4) 18 dX8_roomOf_17 rfl (by decide) ?_
      refine V_iload 20 dX8_roomOf_18 rfl rfl ?_
      refine V_imul 21 dX8_roomOf_20 rfl ?_
      refine V_iload_n 22 dX8_roomOf_21 rfl rfl ?_
      refine V_iadd 23 dX8_roomOf_22 rfl ?_
      refine V_ialdN 24 (4 * a + r) dX8_roomOf_23 rfl rfl (by decide) e4 (show _ < 96 by omega) (by decide) ?_
      refine V_iconst (v := (-1)) 25 dX8_roomOf_24 rfl (by decide) ?_
      refine V_icmp_eq 70 28 dX8_roomOf_25 rfl rfl (fun c_25 => ?_) (fun c_25 => ?_)
      · skip
        refine V_at (fin _ ?_) ⟨rfl, rfl, rfl, rfl, trivial⟩
        simp only [m_room1]
        grind
      · skip
        refine V_lload_n 29 dX8_roomOf_28 rfl rfl ?_
        refine V_aload_n 30 dX8_roomOf_29 rfl rfl ?_
        refine V_getR 33 8 4 fl_X8_21 dX8_roomOf_30 rfl rfl (by decide) (Or.inr ⟨_, rfl⟩) (by decide) (sr_4 hS) ?_
        refine V_iconst (v := 4) 34 dX8_roomOf_33 rfl (by decide) ?_
        refine V_iload 36 dX8_roomOf_34 rfl rfl ?_
        refine V_imul 37 dX8_roomOf_36 rfl ?_
        refine V_iload_n 38 dX8_roomOf_37 rfl rfl ?_
        refine V_iadd 39 dX8_roomOf_38 rfl ?_
        refine V_ialdN 40 (4 * a + r) dX8_roomOf_39 rfl rfl (by decide) e4 (show _ < 96 by omega) (by decide) ?_
        refine V_i2l 41 dX8_roomOf_40 rfl ?_
        refine V_aload_n 42 dX8_roomOf_41 rfl rfl ?_
        refine V_iload 44 dX8_roomOf_42 rfl rfl ?_
        refine V_iload_n 45 dX8_roomOf_44 rfl rfl ?_
        refine V_aload_n 46 dX8_roomOf_45 rfl rfl ?_
        refine V_geti 49 8 0 fl_X8_24 dX8_roomOf_46 rfl rfl (by decide) rfl (by decide) ?_
        refine V_sipush (v := 1000) 52 dX8_roomOf_49 rfl (by decide) ?_
        refine V_idiv 53 dX8_roomOf_52 rfl (by decide) ?_
        rw [enow]
        refine V_cV3l 56 (ct_X8_usedOf hS ea hna hp ha hr hpp) cs_X8_71 rfl rfl (by decide) dX8_roomOf_53 rfl ⟨Nat.le_of_ble_eq_true rfl, Nat.le_of_ble_eq_true rfl⟩ (Nat.le_of_ble_eq_true rfl) ⟨Nat.le_of_ble_eq_true rfl, Nat.le_of_ble_eq_true rfl⟩ (fun x h' hx hle => ?_)
        obtain ⟨rfl, rfl⟩ := hx
        refine V_lsub 57 dX8_roomOf_56 rfl ?_
        refine V_aload_n 58 dX8_roomOf_57 rfl rfl ?_
        refine V_iload 60 dX8_roomOf_58 rfl rfl ?_
        refine V_iload_n 61 dX8_roomOf_60 rfl rfl ?_
        refine V_cV2i 64 (ct_X8_heldOf hS hna hp e hnh hH ha) cs_X8_94 rfl rfl (by decide) dX8_roomOf_61 rfl ⟨Nat.le_of_ble_eq_true rfl, Nat.le_of_ble_eq_true rfl⟩ (Nat.le_of_ble_eq_true rfl) ⟨Nat.le_of_ble_eq_true rfl, Nat.le_of_ble_eq_true rfl⟩ (fun x h' hx hle => ?_)
        obtain ⟨rfl, rfl⟩ := hx
        refine V_i2l 65 dX8_roomOf_64 rfl ?_
        refine V_lsub 66 dX8_roomOf_65 rfl ?_
        refine V_cS2l 69 (ct_J9_min_f86c9 _ _ _) cs_X8_109 dX8_roomOf_66 rfl ⟨Nat.le_of_ble_eq_true rfl, Nat.le_of_ble_eq_true rfl⟩ (Nat.le_of_ble_eq_true rfl) ⟨Nat.le_of_ble_eq_true rfl, Nat.le_of_ble_eq_true rfl⟩ (fun x h' hx hle => ?_)
        obtain ⟨rfl, rfl⟩ := hx
        refine V_lstore_n 70 dX8_roomOf_69 rfl (by decide) ?_
        refine V_at (fin _ ?_) ⟨rfl, rfl, rfl, rfl, trivial⟩
        simp only [m_room1]
        grind
theorem ct_X8_roomOf {na nh r p a : Nat} (hS : SHR h) (ea : qg_i h 33 0 1 = nI na) (hna : na ≤ 24) (hp : WI (qg_i h 35 0) na) (e : qg_i h 33 0 10 = nI nh) (hnh : nh ≤ 200) (hH : WH h na nh) (hr : r < 4) (hpp : p < 100) (enow : qg_i h 33 0 0 / 1000 = nI p) (ha : a < na) : qM yX8_roomOf cX8_roomOf 6 ((some .long)) 2 49 0 0 [.inr (.inr (some (33, 0))), .inl (nI a), .inl (nI r)] h (pL fun x h' => x = m_room h na nh p r a ∧ h' = h) := by
  refine qM.of (plainFor_of_name (by decide)) (Nat.le_of_ble_eq_true rfl) ?_
  refine V_ldc2 (v := 1000000) 3 dX8_roomOf_0 rfl wc_X8_107 ?_
  refine V_lstore_n 4 dX8_roomOf_3 rfl (by decide) ?_
  refine V_iload_n 5 dX8_roomOf_4 rfl rfl ?_
  refine V_istore 7 dX8_roomOf_5 rfl (by decide) ?_
  exact V_at (lp_X8_roomOf hS ea hna hp e hnh hH hr hpp enow a ha _ ⟨_, rfl, rfl, rfl⟩) ⟨rfl, rfl, rfl, rfl, trivial⟩
end RG
end
section
/-! The reference: calls with their refusals -/
section RH
variable {h : qH}
theorem acc_of {na : Nat} {x : Int32} (e : qg_i h 33 0 1 = nI na) (hna : na ≤ 24) (c : ¬ (if 0 ≤ x ∧ x < qg_i h 33 0 1 then (1 : Int32) else 0) = 0) : ∃ b, b < na ∧ x = nI b := by
  have hx : 0 ≤ x ∧ x < nI na := by
    rw [← e]
    exact Classical.byContradiction fun q => c (if_neg q)
  rcases pk_ix x (n := na) (by omega) with z | z | z
  · grind
  · grind
  · exact z
theorem res_of {x : Int32} {n : Nat} (hn : n < 2 ^ 31) (c : ¬ (if 0 ≤ x ∧ x < nI n then (1 : Int32) else 0) = 0) : ∃ b, b < n ∧ x = nI b := by
  have hx : 0 ≤ x ∧ x < nI n := Classical.byContradiction fun q => c (if_neg q)
  rcases pk_ix x (n := n) hn with z | z | z
  · grind
  · grind
  · exact z
theorem ct_X8_used_ok {na b r p : Nat} (hS : SHR h) (e : qg_i h 33 0 1 = nI na) (hna : na ≤ 24) (hp : WI (qg_i h 35 0) na) (hb : b < na) (hr : r < 4) (hpp : p < 100) : qM yX8_used cX8_used 4 ((some .long)) 2 49 0 0 [.inr (.inr (some (33, 0))), .inl (nI b), .inl (nI r), .inl (nI p)] h (pL fun x h' => x = m_used h na b r p ∧ h' = h) := by
  refine qM.of (plainFor_of_name (by decide)) (Nat.le_of_ble_eq_true rfl) ?_
  refine V_aload_n 1 dX8_used_0 rfl rfl ?_
  refine V_iload_n 2 dX8_used_1 rfl rfl ?_
  refine V_cV1i 5 (ct_isAcc_ok e hna hb) cs_X8_11 rfl rfl (by decide) dX8_used_2 rfl ⟨Nat.le_of_ble_eq_true rfl, Nat.le_of_ble_eq_true rfl⟩ (Nat.le_of_ble_eq_true rfl) ⟨Nat.le_of_ble_eq_true rfl, Nat.le_of_ble_eq_true rfl⟩ (fun x h' hx hle => ?_)
  obtain ⟨rfl, rfl⟩ := hx
  refine V_if_eq 35 8 dX8_used_5 rfl rfl (fun c_5 => ?_) (fun c_5 => ?_)
  · skip
    exact absurd c_5 (by decide)
  · skip
    refine V_iload_n 9 dX8_used_8 rfl rfl ?_
    refine V_cS1i 12 (ct_isRes_ok hr) cs_X8_28 dX8_used_9 rfl ⟨Nat.le_of_ble_eq_true rfl, Nat.le_of_ble_eq_true rfl⟩ (Nat.le_of_ble_eq_true rfl) ⟨Nat.le_of_ble_eq_true rfl, Nat.le_of_ble_eq_true rfl⟩ (fun x h' hx hle => ?_)
    obtain ⟨rfl, rfl⟩ := hx
    refine V_if_eq 35 15 dX8_used_12 rfl rfl (fun c_12 => ?_) (fun c_12 => ?_)
    · skip
      exact absurd c_12 (by decide)
    · skip
      refine V_iload_n 16 dX8_used_15 rfl rfl ?_
      refine V_if_lt 35 19 dX8_used_16 rfl rfl (fun c_16 => ?_) (fun c_16 => ?_)
      · skip
        exact absurd c_16 (nI_pos (by omega))
      · skip
        refine V_iload_n 20 dX8_used_19 rfl rfl ?_
        refine V_bipush (v := 100) 22 dX8_used_20 rfl (by decide) ?_
        refine V_icmp_ge 35 25 dX8_used_22 rfl rfl (fun c_22 => ?_) (fun c_22 => ?_)
        · skip
          exact absurd c_22 (nI_ge (b := 100) hpp (by omega))
        · skip
          refine V_aload_n 26 dX8_used_25 rfl rfl ?_
          refine V_iload_n 27 dX8_used_26 rfl rfl ?_
          refine V_iload_n 28 dX8_used_27 rfl rfl ?_
          refine V_iload_n 29 dX8_used_28 rfl rfl ?_
          refine V_cV3l 32 (ct_X8_usedOf hS e hna hp hb hr hpp) cs_X8_71 rfl rfl (by decide) dX8_used_29 rfl ⟨Nat.le_of_ble_eq_true rfl, Nat.le_of_ble_eq_true rfl⟩ (Nat.le_of_ble_eq_true rfl) ⟨Nat.le_of_ble_eq_true rfl, Nat.le_of_ble_eq_true rfl⟩ (fun x h' hx hle => ?_)
          obtain ⟨rfl, rfl⟩ := hx
          refine V_goto 38 dX8_used_32 rfl ?_
          refine V_lret dX8_used_38 rfl ⟨_, rfl, ?_⟩ (by first | exact Nat.le_refl _ | decide | omega) (by first | exact Nat.le_refl _ | decide | omega)
          exact ⟨rfl, rfl⟩
theorem ct_X8_used_bad {a r p : Int32} (hbad : ¬ ((0 ≤ a ∧ a < qg_i h 33 0 1) ∧ (0 ≤ r ∧ r < 4) ∧ (0 ≤ p ∧ p < 100))) : qM yX8_used cX8_used 4 ((some .long)) 2 49 0 0 [.inr (.inr (some (33, 0))), .inl a, .inl r, .inl p] h (pL fun x h' => x = -2 ∧ h' = h) := by
  refine qM.of (plainFor_of_name (by decide)) (Nat.le_of_ble_eq_true rfl) ?_
  refine V_aload_n 1 dX8_used_0 rfl rfl ?_
  refine V_iload_n 2 dX8_used_1 rfl rfl ?_
  refine V_cV1i 5 (ct_X8_isAccount _ _) cs_X8_11 rfl rfl (by decide) dX8_used_2 rfl ⟨Nat.le_of_ble_eq_true rfl, Nat.le_of_ble_eq_true rfl⟩ (Nat.le_of_ble_eq_true rfl) ⟨Nat.le_of_ble_eq_true rfl, Nat.le_of_ble_eq_true rfl⟩ (fun x h' hx hle => ?_)
  obtain ⟨rfl, rfl⟩ := hx
  refine V_if_eq 35 8 dX8_used_5 rfl rfl (fun c_5 => ?_) (fun c_5 => ?_)
  · skip
    refine V_ldc2 (v := -2) 38 dX8_used_35 rfl wc_X8_75 ?_
    refine V_lret dX8_used_38 rfl ⟨_, rfl, ?_⟩ (by first | exact Nat.le_refl _ | decide | omega) (by first | exact Nat.le_refl _ | decide | omega)
    exact ⟨rfl, rfl⟩
  · skip
    refine V_iload_n 9 dX8_used_8 rfl rfl ?_
    refine V_cS1i 12 (ct_X8_isResource _ _) cs_X8_28 dX8_used_9 rfl ⟨Nat.le_of_ble_eq_true rfl, Nat.le_of_ble_eq_true rfl⟩ (Nat.le_of_ble_eq_true rfl) ⟨Nat.le_of_ble_eq_true rfl, Nat.le_of_ble_eq_true rfl⟩ (fun x h' hx hle => ?_)
    obtain ⟨rfl, rfl⟩ := hx
    refine V_if_eq 35 15 dX8_used_12 rfl rfl (fun c_12 => ?_) (fun c_12 => ?_)
    · skip
      refine V_ldc2 (v := -2) 38 dX8_used_35 rfl wc_X8_75 ?_
      refine V_lret dX8_used_38 rfl ⟨_, rfl, ?_⟩ (by first | exact Nat.le_refl _ | decide | omega) (by first | exact Nat.le_refl _ | decide | omega)
      exact ⟨rfl, rfl⟩
    · skip
      refine V_iload_n 16 dX8_used_15 rfl rfl ?_
      refine V_if_lt 35 19 dX8_used_16 rfl rfl (fun c_16 => ?_) (fun c_16 => ?_)
      · skip
        refine V_ldc2 (v := -2) 38 dX8_used_35 rfl wc_X8_75 ?_
        refine V_lret dX8_used_38 rfl ⟨_, rfl, ?_⟩ (by first | exact Nat.le_refl _ | decide | omega) (by first | exact Nat.le_refl _ | decide | omega)
        exact ⟨rfl, rfl⟩
      · skip
        refine V_iload_n 20 dX8_used_19 rfl rfl ?_
        refine V_bipush (v := 100) 22 dX8_used_20 rfl (by decide) ?_
        refine V_icmp_ge 35 25 dX8_used_22 rfl rfl (fun c_22 => ?_) (fun c_22 => ?_)
        · skip
          refine V_ldc2 (v := -2) 38 dX8_used_35 rfl wc_X8_75 ?_
          refine V_lret dX8_used_38 rfl ⟨_, rfl, ?_⟩ (by first | exact Nat.le_refl _ | decide | omega) (by first | exact Nat.le_refl _ | decide | omega)
          exact ⟨rfl, rfl⟩
        · skip
          exfalso; grind
theorem ct_X8_held_ok {na nh b r : Nat} (hS : SHR h) (ea : qg_i h 33 0 1 = nI na) (hna : na ≤ 24) (hp : WI (qg_i h 35 0) na) (e : qg_i h 33 0 10 = nI nh) (hnh : nh ≤ 200) (hH : WH h na nh) (hb : b < na) (hr : r < 4) : qM yX8_held cX8_held 3 ((some .int)) 2 47 0 0 [.inr (.inr (some (33, 0))), .inl (nI b), .inl (nI r)] h (pI fun x h' => x = m_held h nh b (nI r) ∧ h' = h) := by
  refine qM.of (plainFor_of_name (by decide)) (Nat.le_of_ble_eq_true rfl) ?_
  refine V_aload_n 1 dX8_held_0 rfl rfl ?_
  refine V_iload_n 2 dX8_held_1 rfl rfl ?_
  refine V_cV1i 5 (ct_isAcc_ok ea hna hb) cs_X8_11 rfl rfl (by decide) dX8_held_2 rfl ⟨Nat.le_of_ble_eq_true rfl, Nat.le_of_ble_eq_true rfl⟩ (Nat.le_of_ble_eq_true rfl) ⟨Nat.le_of_ble_eq_true rfl, Nat.le_of_ble_eq_true rfl⟩ (fun x h' hx hle => ?_)
  obtain ⟨rfl, rfl⟩ := hx
  refine V_if_eq 24 8 dX8_held_5 rfl rfl (fun c_5 => ?_) (fun c_5 => ?_)
  · skip
    exact absurd c_5 (by decide)
  · skip
    refine V_iload_n 9 dX8_held_8 rfl rfl ?_
    refine V_cS1i 12 (ct_isRes_ok hr) cs_X8_28 dX8_held_9 rfl ⟨Nat.le_of_ble_eq_true rfl, Nat.le_of_ble_eq_true rfl⟩ (Nat.le_of_ble_eq_true rfl) ⟨Nat.le_of_ble_eq_true rfl, Nat.le_of_ble_eq_true rfl⟩ (fun x h' hx hle => ?_)
    obtain ⟨rfl, rfl⟩ := hx
    refine V_if_eq 24 15 dX8_held_12 rfl rfl (fun c_12 => ?_) (fun c_12 => ?_)
    · skip
      exact absurd c_12 (by decide)
    · skip
      refine V_aload_n 16 dX8_held_15 rfl rfl ?_
      refine V_iload_n 17 dX8_held_16 rfl rfl ?_
      refine V_iload_n 18 dX8_held_17 rfl rfl ?_
      refine V_cV2i 21 (ct_X8_heldOf hS hna hp e hnh hH hb) cs_X8_94 rfl rfl (by decide) dX8_held_18 rfl ⟨Nat.le_of_ble_eq_true rfl, Nat.le_of_ble_eq_true rfl⟩ (Nat.le_of_ble_eq_true rfl) ⟨Nat.le_of_ble_eq_true rfl, Nat.le_of_ble_eq_true rfl⟩ (fun x h' hx hle => ?_)
      obtain ⟨rfl, rfl⟩ := hx
      refine V_goto 26 dX8_held_21 rfl ?_
      refine V_iret dX8_held_26 rfl rfl ⟨_, rfl, ?_⟩ (by first | exact Nat.le_refl _ | decide | omega) (by first | exact Nat.le_refl _ | decide | omega)
      exact ⟨rfl, rfl⟩
theorem ct_X8_held_bad {a r : Int32} (hbad : ¬ ((0 ≤ a ∧ a < qg_i h 33 0 1) ∧ (0 ≤ r ∧ r < 4))) : qM yX8_held cX8_held 3 ((some .int)) 2 47 0 0 [.inr (.inr (some (33, 0))), .inl a, .inl r] h (pI fun x h' => x = -2 ∧ h' = h) := by
  refine qM.of (plainFor_of_name (by decide)) (Nat.le_of_ble_eq_true rfl) ?_
  refine V_aload_n 1 dX8_held_0 rfl rfl ?_
  refine V_iload_n 2 dX8_held_1 rfl rfl ?_
  refine V_cV1i 5 (ct_X8_isAccount _ _) cs_X8_11 rfl rfl (by decide) dX8_held_2 rfl ⟨Nat.le_of_ble_eq_true rfl, Nat.le_of_ble_eq_true rfl⟩ (Nat.le_of_ble_eq_true rfl) ⟨Nat.le_of_ble_eq_true rfl, Nat.le_of_ble_eq_true rfl⟩ (fun x h' hx hle => ?_)
  obtain ⟨rfl, rfl⟩ := hx
  refine V_if_eq 24 8 dX8_held_5 rfl rfl (fun c_5 => ?_) (fun c_5 => ?_)
  · skip
    refine V_bipush (v := (-2)) 26 dX8_held_24 rfl (by decide) ?_
    refine V_iret dX8_held_26 rfl rfl ⟨_, rfl, ?_⟩ (by first | exact Nat.le_refl _ | decide | omega) (by first | exact Nat.le_refl _ | decide | omega)
    exact ⟨rfl, rfl⟩
  · skip
    refine V_iload_n 9 dX8_held_8 rfl rfl ?_
    refine V_cS1i 12 (ct_X8_isResource _ _) cs_X8_28 dX8_held_9 rfl ⟨Nat.le_of_ble_eq_true rfl, Nat.le_of_ble_eq_true rfl⟩ (Nat.le_of_ble_eq_true rfl) ⟨Nat.le_of_ble_eq_true rfl, Nat.le_of_ble_eq_true rfl⟩ (fun x h' hx hle => ?_)
    obtain ⟨rfl, rfl⟩ := hx
    refine V_if_eq 24 15 dX8_held_12 rfl rfl (fun c_12 => ?_) (fun c_12 => ?_)
    · skip
      refine V_bipush (v := (-2)) 26 dX8_held_24 rfl (by decide) ?_
      refine V_iret dX8_held_26 rfl rfl ⟨_, rfl, ?_⟩ (by first | exact Nat.le_refl _ | decide | omega) (by first | exact Nat.le_refl _ | decide | omega)
      exact ⟨rfl, rfl⟩
    · skip
      exfalso; grind
theorem ct_X8_room_ok {na nh b r p : Nat} (hS : SHR h) (ea : qg_i h 33 0 1 = nI na) (hna : na ≤ 24) (hp : WI (qg_i h 35 0) na) (e : qg_i h 33 0 10 = nI nh) (hnh : nh ≤ 200) (hH : WH h na nh) (hb : b < na) (hr : r < 4) (hpp : p < 100) (enow : qg_i h 33 0 0 / 1000 = nI p) : qM yX8_room cX8_room 3 ((some .int)) 3 74 0 0 [.inr (.inr (some (33, 0))), .inl (nI b), .inl (nI r)] h (pI fun x h' => x = (if 0 < m_room h na nh p r b then m_room h na nh p r b else 0).toInt32 ∧ h' = h) := by
  refine qM.of (plainFor_of_name (by decide)) (Nat.le_of_ble_eq_true rfl) ?_
  refine V_aload_n 1 dX8_room_0 rfl rfl ?_
  refine V_iload_n 2 dX8_room_1 rfl rfl ?_
  refine V_cV1i 5 (ct_isAcc_ok ea hna hb) cs_X8_11 rfl rfl (by decide) dX8_room_2 rfl ⟨Nat.le_of_ble_eq_true rfl, Nat.le_of_ble_eq_true rfl⟩ (Nat.le_of_ble_eq_true rfl) ⟨Nat.le_of_ble_eq_true rfl, Nat.le_of_ble_eq_true rfl⟩ (fun x h' hx hle => ?_)
  obtain ⟨rfl, rfl⟩ := hx
  refine V_if_eq 29 8 dX8_room_5 rfl rfl (fun c_5 => ?_) (fun c_5 => ?_)
  · skip
    exact absurd c_5 (by decide)
  · skip
    refine V_iload_n 9 dX8_room_8 rfl rfl ?_
    refine V_cS1i 12 (ct_isRes_ok hr) cs_X8_28 dX8_room_9 rfl ⟨Nat.le_of_ble_eq_true rfl, Nat.le_of_ble_eq_true rfl⟩ (Nat.le_of_ble_eq_true rfl) ⟨Nat.le_of_ble_eq_true rfl, Nat.le_of_ble_eq_true rfl⟩ (fun x h' hx hle => ?_)
    obtain ⟨rfl, rfl⟩ := hx
    refine V_if_eq 29 15 dX8_room_12 rfl rfl (fun c_12 => ?_) (fun c_12 => ?_)
    · skip
      exact absurd c_12 (by decide)
    · skip
      refine V_lconst (v := 0) 16 dX8_room_15 rfl (by decide) ?_
      refine V_aload_n 17 dX8_room_16 rfl rfl ?_
      refine V_iload_n 18 dX8_room_17 rfl rfl ?_
      refine V_iload_n 19 dX8_room_18 rfl rfl ?_
      refine V_cV2l 22 (ct_X8_roomOf hS ea hna hp e hnh hH hr hpp enow hb) cs_X8_115 rfl rfl (by decide) dX8_room_19 rfl ⟨Nat.le_of_ble_eq_true rfl, Nat.le_of_ble_eq_true rfl⟩ (Nat.le_of_ble_eq_true rfl) ⟨Nat.le_of_ble_eq_true rfl, Nat.le_of_ble_eq_true rfl⟩ (fun x h' hx hle => ?_)
      obtain ⟨rfl, rfl⟩ := hx
      refine V_cS2l 25 (ct_J9_max_f86c9 _ _ _) cs_X8_119 dX8_room_22 rfl ⟨Nat.le_of_ble_eq_true rfl, Nat.le_of_ble_eq_true rfl⟩ (Nat.le_of_ble_eq_true rfl) ⟨Nat.le_of_ble_eq_true rfl, Nat.le_of_ble_eq_true rfl⟩ (fun x h' hx hle => ?_)
      obtain ⟨rfl, rfl⟩ := hx
      refine V_l2i 26 dX8_room_25 rfl ?_
      refine V_goto 31 dX8_room_26 rfl ?_
      refine V_iret dX8_room_31 rfl rfl ⟨_, rfl, ?_⟩ (by first | exact Nat.le_refl _ | decide | omega) (by first | exact Nat.le_refl _ | decide | omega)
      exact ⟨rfl, rfl⟩
theorem ct_X8_room_bad {a r : Int32} (hbad : ¬ ((0 ≤ a ∧ a < qg_i h 33 0 1) ∧ (0 ≤ r ∧ r < 4))) : qM yX8_room cX8_room 3 ((some .int)) 3 74 0 0 [.inr (.inr (some (33, 0))), .inl a, .inl r] h (pI fun x h' => x = -2 ∧ h' = h) := by
  refine qM.of (plainFor_of_name (by decide)) (Nat.le_of_ble_eq_true rfl) ?_
  refine V_aload_n 1 dX8_room_0 rfl rfl ?_
  refine V_iload_n 2 dX8_room_1 rfl rfl ?_
  refine V_cV1i 5 (ct_X8_isAccount _ _) cs_X8_11 rfl rfl (by decide) dX8_room_2 rfl ⟨Nat.le_of_ble_eq_true rfl, Nat.le_of_ble_eq_true rfl⟩ (Nat.le_of_ble_eq_true rfl) ⟨Nat.le_of_ble_eq_true rfl, Nat.le_of_ble_eq_true rfl⟩ (fun x h' hx hle => ?_)
  obtain ⟨rfl, rfl⟩ := hx
  refine V_if_eq 29 8 dX8_room_5 rfl rfl (fun c_5 => ?_) (fun c_5 => ?_)
  · skip
    refine V_bipush (v := (-2)) 31 dX8_room_29 rfl (by decide) ?_
    refine V_iret dX8_room_31 rfl rfl ⟨_, rfl, ?_⟩ (by first | exact Nat.le_refl _ | decide | omega) (by first | exact Nat.le_refl _ | decide | omega)
    exact ⟨rfl, rfl⟩
  · skip
    refine V_iload_n 9 dX8_room_8 rfl rfl ?_
    refine V_cS1i 12 (ct_X8_isResource _ _) cs_X8_28 dX8_room_9 rfl ⟨Nat.le_of_ble_eq_true rfl, Nat.le_of_ble_eq_true rfl⟩ (Nat.le_of_ble_eq_true rfl) ⟨Nat.le_of_ble_eq_true rfl, Nat.le_of_ble_eq_true rfl⟩ (fun x h' hx hle => ?_)
    obtain ⟨rfl, rfl⟩ := hx
    refine V_if_eq 29 15 dX8_room_12 rfl rfl (fun c_12 => ?_) (fun c_12 => ?_)
    · skip
      refine V_bipush (v := (-2)) 31 dX8_room_29 rfl (by decide) ?_
      refine V_iret dX8_room_31 rfl rfl ⟨_, rfl, ?_⟩ (by first | exact Nat.le_refl _ | decide | omega) (by first | exact Nat.le_refl _ | decide | omega)
      exact ⟨rfl, rfl⟩
    · skip
      exfalso; grind
theorem ct_X8_limit_ok {na b r : Nat} {l : Int32} (hS : SHR h) (ea : qg_i h 33 0 1 = nI na) (hna : na ≤ 24) (hb : b < na) (hr : r < 4) (hl : -1 ≤ l ∧ l ≤ 1000000000) : qM yX8_limit cX8_limit 4 ((some .int)) 1 21 0 0 [.inr (.inr (some (33, 0))), .inl (nI b), .inl (nI r), .inl l] h (pI fun x h' => x = 0 ∧ h' = qs_i h 36 0 (4 * b + r) l) := by
  refine qM.of (plainFor_of_name (by decide)) (Nat.le_of_ble_eq_true rfl) ?_
  refine V_aload_n 1 dX8_limit_0 rfl rfl ?_
  refine V_iload_n 2 dX8_limit_1 rfl rfl ?_
  refine V_cV1i 5 (ct_isAcc_ok ea hna hb) cs_X8_11 rfl rfl (by decide) dX8_limit_2 rfl ⟨Nat.le_of_ble_eq_true rfl, Nat.le_of_ble_eq_true rfl⟩ (Nat.le_of_ble_eq_true rfl) ⟨Nat.le_of_ble_eq_true rfl, Nat.le_of_ble_eq_true rfl⟩ (fun x h' hx hle => ?_)
  obtain ⟨rfl, rfl⟩ := hx
  refine V_if_eq 26 8 dX8_limit_5 rfl rfl (fun c_5 => ?_) (fun c_5 => ?_)
  · skip
    exact absurd c_5 (by decide)
  · skip
    refine V_iload_n 9 dX8_limit_8 rfl rfl ?_
    refine V_cS1i 12 (ct_isRes_ok hr) cs_X8_28 dX8_limit_9 rfl ⟨Nat.le_of_ble_eq_true rfl, Nat.le_of_ble_eq_true rfl⟩ (Nat.le_of_ble_eq_true rfl) ⟨Nat.le_of_ble_eq_true rfl, Nat.le_of_ble_eq_true rfl⟩ (fun x h' hx hle => ?_)
    obtain ⟨rfl, rfl⟩ := hx
    refine V_if_eq 26 15 dX8_limit_12 rfl rfl (fun c_12 => ?_) (fun c_12 => ?_)
    · skip
      exact absurd c_12 (by decide)
    · skip
      refine V_iload_n 16 dX8_limit_15 rfl rfl ?_
      refine V_iconst (v := (-1)) 17 dX8_limit_16 rfl (by decide) ?_
      refine V_icmp_lt 26 20 dX8_limit_17 rfl rfl (fun c_17 => ?_) (fun c_17 => ?_)
      · skip
        grind
      · skip
        refine V_iload_n 21 dX8_limit_20 rfl rfl ?_
        refine V_ldc (v := 1000000000) 23 dX8_limit_21 rfl wc_X8_31 ?_
        refine V_icmp_le 29 26 dX8_limit_23 rfl rfl (fun c_23 => ?_) (fun c_23 => ?_)
        · skip
          refine V_aload_n 30 dX8_limit_29 rfl rfl ?_
          refine V_getR 33 8 4 fl_X8_21 dX8_limit_30 rfl rfl (by decide) (Or.inr ⟨_, rfl⟩) (by decide) (sr_4 hS) ?_
          refine V_iconst (v := 4) 34 dX8_limit_33 rfl (by decide) ?_
          refine V_iload_n 35 dX8_limit_34 rfl rfl ?_
          refine V_imul 36 dX8_limit_35 rfl ?_
          refine V_iload_n 37 dX8_limit_36 rfl rfl ?_
          refine V_iadd 38 dX8_limit_37 rfl ?_
          refine V_iload_n 39 dX8_limit_38 rfl rfl ?_
          refine V_iastN 40 (4 * b + r) dX8_limit_39 rfl rfl (by decide) (by rw [show (4 : Int32) = nI 4 from rfl, pk_mul, nI_add]) (show _ < 96 by omega) (by decide) ?_
          refine V_iconst (v := 0) 41 dX8_limit_40 rfl (by decide) ?_
          refine V_iret dX8_limit_41 rfl rfl ⟨_, rfl, ?_⟩ (by first | exact Nat.le_refl _ | decide | omega) (by first | exact Nat.le_refl _ | decide | omega)
          exact ⟨rfl, rfl⟩
        · skip
          grind
theorem ct_X8_limit_bad {a r l : Int32} (hbad : ¬ ((0 ≤ a ∧ a < qg_i h 33 0 1) ∧ (0 ≤ r ∧ r < 4) ∧ (-1 ≤ l ∧ l ≤ 1000000000))) : qM yX8_limit cX8_limit 4 ((some .int)) 1 21 0 0 [.inr (.inr (some (33, 0))), .inl a, .inl r, .inl l] h (pI fun x h' => x = -2 ∧ h' = h) := by
  refine qM.of (plainFor_of_name (by decide)) (Nat.le_of_ble_eq_true rfl) ?_
  refine V_aload_n 1 dX8_limit_0 rfl rfl ?_
  refine V_iload_n 2 dX8_limit_1 rfl rfl ?_
  refine V_cV1i 5 (ct_X8_isAccount _ _) cs_X8_11 rfl rfl (by decide) dX8_limit_2 rfl ⟨Nat.le_of_ble_eq_true rfl, Nat.le_of_ble_eq_true rfl⟩ (Nat.le_of_ble_eq_true rfl) ⟨Nat.le_of_ble_eq_true rfl, Nat.le_of_ble_eq_true rfl⟩ (fun x h' hx hle => ?_)
  obtain ⟨rfl, rfl⟩ := hx
  refine V_if_eq 26 8 dX8_limit_5 rfl rfl (fun c_5 => ?_) (fun c_5 => ?_)
  · skip
    refine V_bipush (v := (-2)) 28 dX8_limit_26 rfl (by decide) ?_
    refine V_iret dX8_limit_28 rfl rfl ⟨_, rfl, ?_⟩ (by first | exact Nat.le_refl _ | decide | omega) (by first | exact Nat.le_refl _ | decide | omega)
    exact ⟨rfl, rfl⟩
  · skip
    refine V_iload_n 9 dX8_limit_8 rfl rfl ?_
    refine V_cS1i 12 (ct_X8_isResource _ _) cs_X8_28 dX8_limit_9 rfl ⟨Nat.le_of_ble_eq_true rfl, Nat.le_of_ble_eq_true rfl⟩ (Nat.le_of_ble_eq_true rfl) ⟨Nat.le_of_ble_eq_true rfl, Nat.le_of_ble_eq_true rfl⟩ (fun x h' hx hle => ?_)
    obtain ⟨rfl, rfl⟩ := hx
    refine V_if_eq 26 15 dX8_limit_12 rfl rfl (fun c_12 => ?_) (fun c_12 => ?_)
    · skip
      refine V_bipush (v := (-2)) 28 dX8_limit_26 rfl (by decide) ?_
      refine V_iret dX8_limit_28 rfl rfl ⟨_, rfl, ?_⟩ (by first | exact Nat.le_refl _ | decide | omega) (by first | exact Nat.le_refl _ | decide | omega)
      exact ⟨rfl, rfl⟩
    · skip
      refine V_iload_n 16 dX8_limit_15 rfl rfl ?_
      refine V_iconst (v := (-1)) 17 dX8_limit_16 rfl (by decide) ?_
      refine V_icmp_lt 26 20 dX8_limit_17 rfl rfl (fun c_17 => ?_) (fun c_17 => ?_)
      · skip
        refine V_bipush (v := (-2)) 28 dX8_limit_26 rfl (by decide) ?_
        refine V_iret dX8_limit_28 rfl rfl ⟨_, rfl, ?_⟩ (by first | exact Nat.le_refl _ | decide | omega) (by first | exact Nat.le_refl _ | decide | omega)
        exact ⟨rfl, rfl⟩
      · skip
        refine V_iload_n 21 dX8_limit_20 rfl rfl ?_
        refine V_ldc (v := 1000000000) 23 dX8_limit_21 rfl wc_X8_31 ?_
        refine V_icmp_le 29 26 dX8_limit_23 rfl rfl (fun c_23 => ?_) (fun c_23 => ?_)
        · skip
          exfalso; grind
        · skip
          refine V_bipush (v := (-2)) 28 dX8_limit_26 rfl (by decide) ?_
          refine V_iret dX8_limit_28 rfl rfl ⟨_, rfl, ?_⟩ (by first | exact Nat.le_refl _ | decide | omega) (by first | exact Nat.le_refl _ | decide | omega)
          exact ⟨rfl, rfl⟩
/-- the limits of a new account -/
def lim4 (h : qH) (na : Nat) : Nat → qH
  | 0 => h
  | k + 1 => qs_i (lim4 h na k) 36 0 (4 * na + k) (-1)
theorem lim4_n {na : Nat} : ∀ k, qg_n (lim4 h na k) = qg_n h ∧ qg_r (lim4 h na k) = qg_r h ∧ qg_l (lim4 h na k) = qg_l h ∧ ∀ r, r ≠ 36 → qg_i (lim4 h na k) r = qg_i h r
  | 0 => ⟨rfl, rfl, rfl, fun _ _ => rfl⟩
  | k + 1 => by
    obtain ⟨a1, a2, a3, a4⟩ := lim4_n (na := na) k
    refine ⟨a1, a2, a3, fun r hr => ?_⟩
    rw [← a4 r hr]
    funext i j
    simp [lim4, qii, hr]
theorem lp_X8_account {na : Nat} (hS : SHR h) (ea : qg_i h 33 0 1 = nI na) (hna : na < 24) {n0 : Nat → Nat} {Post : Option qV → qH → Prop} (hP : Post (some (.inl (nI na))) (qs_i (lim4 h na 4) 33 0 1 (nI (na + 1)))) :
    ∀ (m i : Nat), i + m = 4 → Vw yX8_account cX8_account 4 ((some .int)) (qrm 1 21 0 0) 0 0 n0 Post 67 [(0, .inr (.inr (some (33, 0)))), (3, .inl (nI i))] [] (lim4 h na i) 0 0 := by
  intro m
  induction m with
  | zero =>
    intro i hi
    have hi : i = 4 := by omega
    subst hi
    have e1 : qg_i (lim4 h na 4) 33 0 1 = nI na := by rw [(lim4_n 4).2.2.2 33 (by decide)]; exact ea
    refine V_iload_n 68 dX8_account_67 rfl rfl ?_
    refine V_iconst (v := 4) 69 dX8_account_68 rfl (by decide) ?_
    refine V_icmp_ge 92 72 dX8_account_69 rfl rfl (fun c_69 => ?_) (fun c_69 => ?_)
    · skip
      refine V_aload_n 93 dX8_account_92 rfl rfl ?_
      refine V_dup 94 dX8_account_93 rfl ?_
      refine V_geti 97 8 1 fl_X8_3 dX8_account_94 rfl rfl (by decide) rfl (by decide) ?_
      rw [e1]
      refine V_iconst (v := 1) 98 dX8_account_97 rfl (by decide) ?_
      refine V_iadd 99 dX8_account_98 rfl ?_
      rw [show nI na + 1 = nI (na + 1) from nI_1 na]
      refine V_puti 102 8 1 fl_X8_3 dX8_account_99 rfl rfl (by decide) rfl (by decide) (Or.inl rfl) ?_
      refine V_aload_n 103 dX8_account_102 rfl rfl ?_
      refine V_geti 106 8 1 fl_X8_3 dX8_account_103 rfl rfl (by decide) rfl (by decide) ?_
      rw [(show qg_i (qs_i (lim4 h na 4) 33 0 1 (nI (na + 1))) 33 0 1 = nI (na + 1) by simp [qii])]
      refine V_iconst (v := 1) 107 dX8_account_106 rfl (by decide) ?_
      refine V_isub 108 dX8_account_107 rfl ?_
      rw [nI_pred]
      refine V_iret dX8_account_108 rfl rfl ?_ (by first | exact Nat.le_refl _ | decide | omega) (by first | exact Nat.le_refl _ | decide | omega)
      exact hP
    · skip
      exact absurd (by decide) c_69
  | succ m ih =>
    intro i hi
    have e1 : qg_i (lim4 h na i) 33 0 1 = nI na := by rw [(lim4_n i).2.2.2 33 (by decide)]; exact ea
    have hS2 : SHR (lim4 h na i) := fun k => by rw [(lim4_n i).2.1]; exact hS k
    refine V_iload_n 68 dX8_account_67 rfl rfl ?_
    refine V_iconst (v := 4) 69 dX8_account_68 rfl (by decide) ?_
    refine V_icmp_ge 92 72 dX8_account_69 rfl rfl (fun c_69 => ?_) (fun c_69 => ?_)
    · skip
      exact absurd c_69 (nI_ge (b := 4) (by omega) (by omega))
    · skip
      refine V_aload_n 73 dX8_account_72 rfl rfl ?_
      refine V_getR 76 8 4 fl_X8_21 dX8_account_73 rfl rfl (by decide) (Or.inr ⟨_, rfl⟩) (by decide) (sr_4 hS2) ?_
      refine V_iconst (v := 4) 77 dX8_account_76 rfl (by decide) ?_
      refine V_aload_n 78 dX8_account_77 rfl rfl ?_
      refine V_geti 81 8 1 fl_X8_3 dX8_account_78 rfl rfl (by decide) rfl (by decide) ?_
      rw [e1]
      refine V_imul 82 dX8_account_81 rfl ?_
      refine V_iload_n 83 dX8_account_82 rfl rfl ?_
      refine V_iadd 84 dX8_account_83 rfl ?_
      refine V_iconst (v := (-1)) 85 dX8_account_84 rfl (by decide) ?_
      refine V_iastN 86 (4 * na + i) dX8_account_85 rfl rfl (by decide) (by rw [show (4 : Int32) = nI 4 from rfl, pk_mul, nI_add]) (show _ < 96 by omega) (by decide) ?_
      refine V_iincN 89 dX8_account_86 rfl rfl (by decide) ?_
      refine V_goto 67 dX8_account_89 rfl ?_
      exact V_at (ih (i + 1) (by omega)) ⟨rfl, rfl, trivial⟩
theorem ct_X8_account_ok {na t : Nat} {inn : Int32} (hS : SHR h) (ea : qg_i h 33 0 1 = nI na) (hna : na < 24) (ht : t < 6) (hin : inn = -1 ∨ ∃ b, b < na ∧ inn = nI b ∧ qg_i h 34 0 b = nI t) : qM yX8_account cX8_account 4 ((some .int)) 1 21 0 0 [.inr (.inr (some (33, 0))), .inl (nI t), .inl inn] h (pI fun x h' => x = nI na ∧ h' = qs_i (lim4 (qs_i (qs_i h 34 0 na (nI t)) 35 0 na inn) na 4) 33 0 1 (nI (na + 1))) := by
  refine qM.of (plainFor_of_name (by decide)) (Nat.le_of_ble_eq_true rfl) ?_
  refine V_iload_n 1 dX8_account_0 rfl rfl ?_
  refine V_cS1i 4 (ct_isTen_ok ht) cs_X8_7 dX8_account_1 rfl ⟨Nat.le_of_ble_eq_true rfl, Nat.le_of_ble_eq_true rfl⟩ (Nat.le_of_ble_eq_true rfl) ⟨Nat.le_of_ble_eq_true rfl, Nat.le_of_ble_eq_true rfl⟩ (fun x h' hx hle => ?_)
  obtain ⟨rfl, rfl⟩ := hx
  refine V_if_eq 30 7 dX8_account_4 rfl rfl (fun c_4 => ?_) (fun c_4 => ?_)
  · skip
    exact absurd c_4 (by decide)
  · skip
    refine V_iload_n 8 dX8_account_7 rfl rfl ?_
    refine V_iconst (v := (-1)) 9 dX8_account_8 rfl (by decide) ?_
    refine V_icmp_eq 33 12 dX8_account_9 rfl rfl (fun c_9 => ?_) (fun c_9 => ?_)
    · skip
      refine V_aload_n 34 dX8_account_33 rfl rfl ?_
      refine V_geti 37 8 1 fl_X8_3 dX8_account_34 rfl rfl (by decide) rfl (by decide) ?_
      rw [ea]
      refine V_bipush (v := 24) 39 dX8_account_37 rfl (by decide) ?_
      refine V_icmp_ne 45 42 dX8_account_39 rfl rfl (fun c_39 => ?_) (fun c_39 => ?_)
      · skip
        refine V_aload_n 46 dX8_account_45 rfl rfl ?_
        refine V_getR 49 8 2 fl_X8_14 dX8_account_46 rfl rfl (by decide) (Or.inr ⟨_, rfl⟩) (by decide) (sr_2 hS) ?_
        refine V_aload_n 50 dX8_account_49 rfl rfl ?_
        refine V_geti 53 8 1 fl_X8_3 dX8_account_50 rfl rfl (by decide) rfl (by decide) ?_
        rw [ea]
        refine V_iload_n 54 dX8_account_53 rfl rfl ?_
        refine V_iastN 55 (_) dX8_account_54 rfl rfl (by decide) rfl (show _ < 24 by omega) (by decide) ?_
        refine V_aload_n 56 dX8_account_55 rfl rfl ?_
        refine V_getR 59 8 3 fl_X8_18 dX8_account_56 rfl rfl (by decide) (Or.inr ⟨_, rfl⟩) (by decide) (sr_3 hS) ?_
        refine V_aload_n 60 dX8_account_59 rfl rfl ?_
        refine V_geti 63 8 1 fl_X8_3 dX8_account_60 rfl rfl (by decide) rfl (by decide) ?_
        rw [(show qg_i (qs_i _ 34 0 na (nI t)) 33 0 1 = nI na from ea)]
        refine V_iload_n 64 dX8_account_63 rfl rfl ?_
        refine V_iastN 65 (_) dX8_account_64 rfl rfl (by decide) rfl (show _ < 24 by omega) (by decide) ?_
        refine V_iconst (v := 0) 66 dX8_account_65 rfl (by decide) ?_
        refine V_istore_n 67 dX8_account_66 rfl (by decide) ?_
        exact V_at (lp_X8_account (h := qs_i (qs_i _ 34 0 na (nI t)) 35 0 na _) hS ea hna ⟨_, rfl, rfl, rfl⟩ 4 0 (by omega)) ⟨rfl, rfl, trivial⟩
      · skip
        exact absurd (show nI na = nI 24 from c_39) (fun q => by have := (nI_eq (by omega) (by omega)).mp q; omega)
    · skip
      obtain ⟨b, hb, rfl, et⟩ := hin.resolve_left c_9
      refine V_aload_n 13 dX8_account_12 rfl rfl ?_
      refine V_iload_n 14 dX8_account_13 rfl rfl ?_
      refine V_cV1i 17 (ct_isAcc_ok ea (by omega) hb) cs_X8_11 rfl rfl (by decide) dX8_account_14 rfl ⟨Nat.le_of_ble_eq_true rfl, Nat.le_of_ble_eq_true rfl⟩ (Nat.le_of_ble_eq_true rfl) ⟨Nat.le_of_ble_eq_true rfl, Nat.le_of_ble_eq_true rfl⟩ (fun x h' hx hle => ?_)
      obtain ⟨rfl, rfl⟩ := hx
      refine V_if_eq 30 20 dX8_account_17 rfl rfl (fun c_17 => ?_) (fun c_17 => ?_)
      · skip
        exact absurd c_17 (by decide)
      · skip
        refine V_aload_n 21 dX8_account_20 rfl rfl ?_
        refine V_getR 24 8 2 fl_X8_14 dX8_account_21 rfl rfl (by decide) (Or.inr ⟨_, rfl⟩) (by decide) (sr_2 hS) ?_
        refine V_iload_n 25 dX8_account_24 rfl rfl ?_
        refine V_ialdN 26 (_) dX8_account_25 rfl rfl (by decide) rfl (show _ < 24 by omega) (by decide) ?_
        rw [et]
        refine V_iload_n 27 dX8_account_26 rfl rfl ?_
        refine V_icmp_eq 33 30 dX8_account_27 rfl rfl (fun c_27 => ?_) (fun c_27 => ?_)
        · skip
          refine V_aload_n 34 dX8_account_33 rfl rfl ?_
          refine V_geti 37 8 1 fl_X8_3 dX8_account_34 rfl rfl (by decide) rfl (by decide) ?_
          rw [ea]
          refine V_bipush (v := 24) 39 dX8_account_37 rfl (by decide) ?_
          refine V_icmp_ne 45 42 dX8_account_39 rfl rfl (fun c_39 => ?_) (fun c_39 => ?_)
          · skip
            refine V_aload_n 46 dX8_account_45 rfl rfl ?_
            refine V_getR 49 8 2 fl_X8_14 dX8_account_46 rfl rfl (by decide) (Or.inr ⟨_, rfl⟩) (by decide) (sr_2 hS) ?_
            refine V_aload_n 50 dX8_account_49 rfl rfl ?_
            refine V_geti 53 8 1 fl_X8_3 dX8_account_50 rfl rfl (by decide) rfl (by decide) ?_
            rw [ea]
            refine V_iload_n 54 dX8_account_53 rfl rfl ?_
            refine V_iastN 55 (_) dX8_account_54 rfl rfl (by decide) rfl (show _ < 24 by omega) (by decide) ?_
            refine V_aload_n 56 dX8_account_55 rfl rfl ?_
            refine V_getR 59 8 3 fl_X8_18 dX8_account_56 rfl rfl (by decide) (Or.inr ⟨_, rfl⟩) (by decide) (sr_3 hS) ?_
            refine V_aload_n 60 dX8_account_59 rfl rfl ?_
            refine V_geti 63 8 1 fl_X8_3 dX8_account_60 rfl rfl (by decide) rfl (by decide) ?_
            rw [(show qg_i (qs_i _ 34 0 na (nI t)) 33 0 1 = nI na from ea)]
            refine V_iload_n 64 dX8_account_63 rfl rfl ?_
            refine V_iastN 65 (_) dX8_account_64 rfl rfl (by decide) rfl (show _ < 24 by omega) (by decide) ?_
            refine V_iconst (v := 0) 66 dX8_account_65 rfl (by decide) ?_
            refine V_istore_n 67 dX8_account_66 rfl (by decide) ?_
            exact V_at (lp_X8_account (h := qs_i (qs_i _ 34 0 na (nI t)) 35 0 na _) hS ea hna ⟨_, rfl, rfl, rfl⟩ 4 0 (by omega)) ⟨rfl, rfl, trivial⟩
          · skip
            exact absurd (show nI na = nI 24 from c_39) (fun q => by have := (nI_eq (by omega) (by omega)).mp q; omega)
        · skip
          exact absurd rfl c_27
theorem ct_X8_account_full {t : Nat} {inn : Int32} (hS : SHR h) (ea : qg_i h 33 0 1 = nI 24) (ht : t < 6) (hin : inn = -1 ∨ ∃ b, b < 24 ∧ inn = nI b ∧ qg_i h 34 0 b = nI t) : qM yX8_account cX8_account 4 ((some .int)) 1 21 0 0 [.inr (.inr (some (33, 0))), .inl (nI t), .inl inn] h (pI fun x h' => x = -3 ∧ h' = h) := by
  refine qM.of (plainFor_of_name (by decide)) (Nat.le_of_ble_eq_true rfl) ?_
  refine V_iload_n 1 dX8_account_0 rfl rfl ?_
  refine V_cS1i 4 (ct_isTen_ok ht) cs_X8_7 dX8_account_1 rfl ⟨Nat.le_of_ble_eq_true rfl, Nat.le_of_ble_eq_true rfl⟩ (Nat.le_of_ble_eq_true rfl) ⟨Nat.le_of_ble_eq_true rfl, Nat.le_of_ble_eq_true rfl⟩ (fun x h' hx hle => ?_)
  obtain ⟨rfl, rfl⟩ := hx
  refine V_if_eq 30 7 dX8_account_4 rfl rfl (fun c_4 => ?_) (fun c_4 => ?_)
  · skip
    exact absurd c_4 (by decide)
  · skip
    refine V_iload_n 8 dX8_account_7 rfl rfl ?_
    refine V_iconst (v := (-1)) 9 dX8_account_8 rfl (by decide) ?_
    refine V_icmp_eq 33 12 dX8_account_9 rfl rfl (fun c_9 => ?_) (fun c_9 => ?_)
    · skip
      refine V_aload_n 34 dX8_account_33 rfl rfl ?_
      refine V_geti 37 8 1 fl_X8_3 dX8_account_34 rfl rfl (by decide) rfl (by decide) ?_
      rw [ea]
      refine V_bipush (v := 24) 39 dX8_account_37 rfl (by decide) ?_
      refine V_icmp_ne 45 42 dX8_account_39 rfl rfl (fun c_39 => ?_) (fun c_39 => ?_)
      · skip
        exact absurd rfl c_39
      · skip
        refine V_bipush (v := (-3)) 44 dX8_account_42 rfl (by decide) ?_
        refine V_iret dX8_account_44 rfl rfl ⟨_, rfl, ?_⟩ (by first | exact Nat.le_refl _ | decide | omega) (by first | exact Nat.le_refl _ | decide | omega)
        exact ⟨rfl, rfl⟩
    · skip
      obtain ⟨b, hb, rfl, et⟩ := hin.resolve_left c_9
      refine V_aload_n 13 dX8_account_12 rfl rfl ?_
      refine V_iload_n 14 dX8_account_13 rfl rfl ?_
      refine V_cV1i 17 (ct_isAcc_ok ea (by omega) hb) cs_X8_11 rfl rfl (by decide) dX8_account_14 rfl ⟨Nat.le_of_ble_eq_true rfl, Nat.le_of_ble_eq_true rfl⟩ (Nat.le_of_ble_eq_true rfl) ⟨Nat.le_of_ble_eq_true rfl, Nat.le_of_ble_eq_true rfl⟩ (fun x h' hx hle => ?_)
      obtain ⟨rfl, rfl⟩ := hx
      refine V_if_eq 30 20 dX8_account_17 rfl rfl (fun c_17 => ?_) (fun c_17 => ?_)
      · skip
        exact absurd c_17 (by decide)
      · skip
        refine V_aload_n 21 dX8_account_20 rfl rfl ?_
        refine V_getR 24 8 2 fl_X8_14 dX8_account_21 rfl rfl (by decide) (Or.inr ⟨_, rfl⟩) (by decide) (sr_2 hS) ?_
        refine V_iload_n 25 dX8_account_24 rfl rfl ?_
        refine V_ialdN 26 (_) dX8_account_25 rfl rfl (by decide) rfl (show _ < 24 by omega) (by decide) ?_
        rw [et]
        refine V_iload_n 27 dX8_account_26 rfl rfl ?_
        refine V_icmp_eq 33 30 dX8_account_27 rfl rfl (fun c_27 => ?_) (fun c_27 => ?_)
        · skip
          refine V_aload_n 34 dX8_account_33 rfl rfl ?_
          refine V_geti 37 8 1 fl_X8_3 dX8_account_34 rfl rfl (by decide) rfl (by decide) ?_
          rw [ea]
          refine V_bipush (v := 24) 39 dX8_account_37 rfl (by decide) ?_
          refine V_icmp_ne 45 42 dX8_account_39 rfl rfl (fun c_39 => ?_) (fun c_39 => ?_)
          · skip
            exact absurd rfl c_39
          · skip
            refine V_bipush (v := (-3)) 44 dX8_account_42 rfl (by decide) ?_
            refine V_iret dX8_account_44 rfl rfl ⟨_, rfl, ?_⟩ (by first | exact Nat.le_refl _ | decide | omega) (by first | exact Nat.le_refl _ | decide | omega)
            exact ⟨rfl, rfl⟩
        · skip
          exact absurd rfl c_27
theorem ct_X8_account_bad {na : Nat} {t inn : Int32} (hS : SHR h) (ea : qg_i h 33 0 1 = nI na) (hna : na ≤ 24) (hbad : ¬ ((0 ≤ t ∧ t < 6) ∧ (inn = -1 ∨ ∃ b, b < na ∧ inn = nI b ∧ qg_i h 34 0 b = t))) : qM yX8_account cX8_account 4 ((some .int)) 1 21 0 0 [.inr (.inr (some (33, 0))), .inl t, .inl inn] h (pI fun x h' => x = -2 ∧ h' = h) := by
  refine qM.of (plainFor_of_name (by decide)) (Nat.le_of_ble_eq_true rfl) ?_
  refine V_iload_n 1 dX8_account_0 rfl rfl ?_
  refine V_cS1i 4 (ct_X8_isTenant _ _) cs_X8_7 dX8_account_1 rfl ⟨Nat.le_of_ble_eq_true rfl, Nat.le_of_ble_eq_true rfl⟩ (Nat.le_of_ble_eq_true rfl) ⟨Nat.le_of_ble_eq_true rfl, Nat.le_of_ble_eq_true rfl⟩ (fun x h' hx hle => ?_)
  obtain ⟨rfl, rfl⟩ := hx
  refine V_if_eq 30 7 dX8_account_4 rfl rfl (fun c_4 => ?_) (fun c_4 => ?_)
  · skip
    refine V_bipush (v := (-2)) 32 dX8_account_30 rfl (by decide) ?_
    refine V_iret dX8_account_32 rfl rfl ⟨_, rfl, ?_⟩ (by first | exact Nat.le_refl _ | decide | omega) (by first | exact Nat.le_refl _ | decide | omega)
    exact ⟨rfl, rfl⟩
  · skip
    refine V_iload_n 8 dX8_account_7 rfl rfl ?_
    refine V_iconst (v := (-1)) 9 dX8_account_8 rfl (by decide) ?_
    refine V_icmp_eq 33 12 dX8_account_9 rfl rfl (fun c_9 => ?_) (fun c_9 => ?_)
    · skip
      exfalso; grind
    · skip
      refine V_aload_n 13 dX8_account_12 rfl rfl ?_
      refine V_iload_n 14 dX8_account_13 rfl rfl ?_
      refine V_cV1i 17 (ct_X8_isAccount _ _) cs_X8_11 rfl rfl (by decide) dX8_account_14 rfl ⟨Nat.le_of_ble_eq_true rfl, Nat.le_of_ble_eq_true rfl⟩ (Nat.le_of_ble_eq_true rfl) ⟨Nat.le_of_ble_eq_true rfl, Nat.le_of_ble_eq_true rfl⟩ (fun x h' hx hle => ?_)
      obtain ⟨rfl, rfl⟩ := hx
      refine V_if_eq 30 20 dX8_account_17 rfl rfl (fun c_17 => ?_) (fun c_17 => ?_)
      · skip
        refine V_bipush (v := (-2)) 32 dX8_account_30 rfl (by decide) ?_
        refine V_iret dX8_account_32 rfl rfl ⟨_, rfl, ?_⟩ (by first | exact Nat.le_refl _ | decide | omega) (by first | exact Nat.le_refl _ | decide | omega)
        exact ⟨rfl, rfl⟩
      · skip
        obtain ⟨b, hb, rfl⟩ := acc_of ea hna c_17
        refine V_aload_n 21 dX8_account_20 rfl rfl ?_
        refine V_getR 24 8 2 fl_X8_14 dX8_account_21 rfl rfl (by decide) (Or.inr ⟨_, rfl⟩) (by decide) (sr_2 hS) ?_
        refine V_iload_n 25 dX8_account_24 rfl rfl ?_
        refine V_ialdN 26 (_) dX8_account_25 rfl rfl (by decide) rfl (show _ < 24 by omega) (by decide) ?_
        refine V_iload_n 27 dX8_account_26 rfl rfl ?_
        refine V_icmp_eq 33 30 dX8_account_27 rfl rfl (fun c_27 => ?_) (fun c_27 => ?_)
        · skip
          exfalso; grind
        · skip
          refine V_bipush (v := (-2)) 32 dX8_account_30 rfl (by decide) ?_
          refine V_iret dX8_account_32 rfl rfl ⟨_, rfl, ?_⟩ (by first | exact Nat.le_refl _ | decide | omega) (by first | exact Nat.le_refl _ | decide | omega)
          exact ⟨rfl, rfl⟩
theorem ct_X8_drop_ok {nh a : Nat} (hS : SHR h) (e : qg_i h 33 0 10 = nI nh) (hnh : nh ≤ 200) (ha : a < nh) (ho : m_open h a = true) : qM yX8_drop cX8_drop 2 ((some .int)) 1 21 0 0 [.inr (.inr (some (33, 0))), .inl (nI a)] h (pI fun x h' => x = qg_i h 43 0 a ∧ h' = qs_i h 45 0 a 1) := by
  refine qM.of (plainFor_of_name (by decide)) (Nat.le_of_ble_eq_true rfl) ?_
  refine V_aload_n 1 dX8_drop_0 rfl rfl ?_
  refine V_iload_n 2 dX8_drop_1 rfl rfl ?_
  refine V_cV1i 5 (ct_X8_isOpen hS e hnh ha) cs_X8_91 rfl rfl (by decide) dX8_drop_2 rfl ⟨Nat.le_of_ble_eq_true rfl, Nat.le_of_ble_eq_true rfl⟩ (Nat.le_of_ble_eq_true rfl) ⟨Nat.le_of_ble_eq_true rfl, Nat.le_of_ble_eq_true rfl⟩ (fun x h' hx hle => ?_)
  obtain ⟨rfl, rfl⟩ := hx
  refine V_if_ne 11 8 dX8_drop_5 rfl rfl (fun c_5 => ?_) (fun c_5 => ?_)
  · skip
    refine V_aload_n 12 dX8_drop_11 rfl rfl ?_
    refine V_getR 15 8 15 fl_X8_84 dX8_drop_12 rfl rfl (by decide) (Or.inr ⟨_, rfl⟩) (by decide) (sr_15 hS) ?_
    refine V_iload_n 16 dX8_drop_15 rfl rfl ?_
    refine V_iconst (v := 1) 17 dX8_drop_16 rfl (by decide) ?_
    refine V_zastN 18 (_) dX8_drop_17 rfl rfl (by decide) rfl (show _ < 200 by omega) (by decide) rfl ?_
    refine V_aload_n 19 dX8_drop_18 rfl rfl ?_
    refine V_getR 22 8 13 fl_X8_104 dX8_drop_19 rfl rfl (by decide) (Or.inr ⟨_, rfl⟩) (by decide) (sr_13 hS) ?_
    refine V_iload_n 23 dX8_drop_22 rfl rfl ?_
    refine V_ialdN 24 (_) dX8_drop_23 rfl rfl (by decide) rfl (show _ < 200 by omega) (by decide) ?_
    refine V_iret dX8_drop_24 rfl rfl ⟨_, rfl, ?_⟩ (by first | exact Nat.le_refl _ | decide | omega) (by first | exact Nat.le_refl _ | decide | omega)
    exact ⟨rfl, rfl⟩
  · skip
    exact absurd (by rw [if_pos ho] at c_5; exact c_5) (by decide)
theorem ct_X8_drop_bad {nh : Nat} {a : Int32} (hS : SHR h) (e : qg_i h 33 0 10 = nI nh) (hnh : nh ≤ 200) (ha : ¬ ∃ j, j < nh ∧ a = nI j ∧ m_open h j = true) : qM yX8_drop cX8_drop 2 ((some .int)) 1 21 0 0 [.inr (.inr (some (33, 0))), .inl a] h (pI fun x h' => x = -2 ∧ h' = h) := by
  rcases pk_ix a (n := nh) (by omega) with z | z | ⟨j, hj, rfl⟩
  · refine qM.of (plainFor_of_name (by decide)) (Nat.le_of_ble_eq_true rfl) ?_
    refine V_aload_n 1 dX8_drop_0 rfl rfl ?_
    refine V_iload_n 2 dX8_drop_1 rfl rfl ?_
    refine V_cV1i 5 (ct_X8_isOpen_no hS e hnh (Or.inl z)) cs_X8_91 rfl rfl (by decide) dX8_drop_2 rfl ⟨Nat.le_of_ble_eq_true rfl, Nat.le_of_ble_eq_true rfl⟩ (Nat.le_of_ble_eq_true rfl) ⟨Nat.le_of_ble_eq_true rfl, Nat.le_of_ble_eq_true rfl⟩ (fun x h' hx hle => ?_)
    obtain ⟨rfl, rfl⟩ := hx
    refine V_if_ne 11 8 dX8_drop_5 rfl rfl (fun c_5 => ?_) (fun c_5 => ?_)
    · skip
      exact absurd rfl c_5
    · skip
      refine V_bipush (v := (-2)) 10 dX8_drop_8 rfl (by decide) ?_
      refine V_iret dX8_drop_10 rfl rfl ⟨_, rfl, ?_⟩ (by first | exact Nat.le_refl _ | decide | omega) (by first | exact Nat.le_refl _ | decide | omega)
      exact ⟨rfl, rfl⟩
  · refine qM.of (plainFor_of_name (by decide)) (Nat.le_of_ble_eq_true rfl) ?_
    refine V_aload_n 1 dX8_drop_0 rfl rfl ?_
    refine V_iload_n 2 dX8_drop_1 rfl rfl ?_
    refine V_cV1i 5 (ct_X8_isOpen_no hS e hnh (Or.inr z)) cs_X8_91 rfl rfl (by decide) dX8_drop_2 rfl ⟨Nat.le_of_ble_eq_true rfl, Nat.le_of_ble_eq_true rfl⟩ (Nat.le_of_ble_eq_true rfl) ⟨Nat.le_of_ble_eq_true rfl, Nat.le_of_ble_eq_true rfl⟩ (fun x h' hx hle => ?_)
    obtain ⟨rfl, rfl⟩ := hx
    refine V_if_ne 11 8 dX8_drop_5 rfl rfl (fun c_5 => ?_) (fun c_5 => ?_)
    · skip
      exact absurd rfl c_5
    · skip
      refine V_bipush (v := (-2)) 10 dX8_drop_8 rfl (by decide) ?_
      refine V_iret dX8_drop_10 rfl rfl ⟨_, rfl, ?_⟩ (by first | exact Nat.le_refl _ | decide | omega) (by first | exact Nat.le_refl _ | decide | omega)
      exact ⟨rfl, rfl⟩
  · have ho : ¬ m_open h j = true := fun q => ha ⟨j, hj, rfl, q⟩
    refine qM.of (plainFor_of_name (by decide)) (Nat.le_of_ble_eq_true rfl) ?_
    refine V_aload_n 1 dX8_drop_0 rfl rfl ?_
    refine V_iload_n 2 dX8_drop_1 rfl rfl ?_
    refine V_cV1i 5 (ct_X8_isOpen hS e hnh hj) cs_X8_91 rfl rfl (by decide) dX8_drop_2 rfl ⟨Nat.le_of_ble_eq_true rfl, Nat.le_of_ble_eq_true rfl⟩ (Nat.le_of_ble_eq_true rfl) ⟨Nat.le_of_ble_eq_true rfl, Nat.le_of_ble_eq_true rfl⟩ (fun x h' hx hle => ?_)
    obtain ⟨rfl, rfl⟩ := hx
    refine V_if_ne 11 8 dX8_drop_5 rfl rfl (fun c_5 => ?_) (fun c_5 => ?_)
    · skip
      exact absurd (if_neg ho) c_5
    · skip
      refine V_bipush (v := (-2)) 10 dX8_drop_8 rfl (by decide) ?_
      refine V_iret dX8_drop_10 rfl rfl ⟨_, rfl, ?_⟩ (by first | exact Nat.le_refl _ | decide | omega) (by first | exact Nat.le_refl _ | decide | omega)
      exact ⟨rfl, rfl⟩
end RH
end
section
/-! The reference: holds, prices, terms, credits -/
section RI
variable {h : qH}
def m_hold (h : qH) (j : Nat) (w : Int32) : Int32 := if w.toInt = 0 then qg_i h 41 0 j else if w.toInt = 1 then qg_i h 42 0 j else if w.toInt = 2 then qg_i h 43 0 j else if w.toInt = 3 then qg_i h 44 0 j else if w.toInt = 4 then (if m_open h j then 1 else 0) else -2
theorem ct_X8_hold_ok {nh a : Nat} {w : Int32} (hS : SHR h) (e : qg_i h 33 0 10 = nI nh) (hnh : nh ≤ 200) (ha : a < nh) : qM yX8_hold cX8_hold 3 ((some .int)) 1 21 0 0 [.inr (.inr (some (33, 0))), .inl (nI a), .inl w] h (pI fun x h' => x = m_hold h a w ∧ h' = h) := by
  refine qM.of (plainFor_of_name (by decide)) (Nat.le_of_ble_eq_true rfl) ?_
  refine V_iload_n 1 dX8_hold_0 rfl rfl ?_
  refine V_if_lt 12 4 dX8_hold_1 rfl rfl (fun c_1 => ?_) (fun c_1 => ?_)
  · skip
    exact absurd c_1 (nI_pos (by omega))
  · skip
    refine V_iload_n 5 dX8_hold_4 rfl rfl ?_
    refine V_aload_n 6 dX8_hold_5 rfl rfl ?_
    refine V_getiV 9 8 10 fl_X8_81 dX8_hold_6 rfl rfl (by decide) rfl (by decide) e ?_
    refine V_icmp_lt 15 12 dX8_hold_9 rfl rfl (fun c_9 => ?_) (fun c_9 => ?_)
    · skip
      refine V_iload_n 16 dX8_hold_15 rfl rfl ?_
      by_cases z_16 : w.toInt < 0 ∨ 4 < w.toInt
      · refine V_tabOut 94 dX8_hold_16 z_16 rfl ?_
        refine V_bipush (v := (-2)) 96 dX8_hold_94 rfl (by decide) ?_
        refine V_iret dX8_hold_96 rfl rfl ⟨_, rfl, ?_⟩ (by first | exact Nat.le_refl _ | decide | omega) (by first | exact Nat.le_refl _ | decide | omega)
        refine ⟨?_, rfl⟩
        unfold m_hold
        rw [if_neg (by omega), if_neg (by omega), if_neg (by omega), if_neg (by omega), if_neg (by omega)]
      · obtain ⟨j_16, hj_16, hx_16⟩ : ∃ j : Nat, j < 5 ∧ w = nI (0 + j) := qx_sw 0 5 (by decide) (by decide) z_16
        rcases (show j_16 = 0 ∨ j_16 = 1 ∨ j_16 = 2 ∨ j_16 = 3 ∨ j_16 = 4 by omega) with rfl | rfl | rfl | rfl | rfl
        · rw [hx_16]
          refine V_tabIn (x := nI (0 + 0)) 52 dX8_hold_16 (by decide) (by decide) rfl rfl ?_
          refine V_aload_n 53 dX8_hold_52 rfl rfl ?_
          refine V_getR 56 8 11 fl_X8_101 dX8_hold_53 rfl rfl (by decide) (Or.inr ⟨_, rfl⟩) (by decide) (sr_11 hS) ?_
          refine V_iload_n 57 dX8_hold_56 rfl rfl ?_
          refine V_ialdN 58 (_) dX8_hold_57 rfl rfl (by decide) rfl (show _ < 200 by omega) (by decide) ?_
          refine V_iret dX8_hold_58 rfl rfl ⟨_, rfl, ?_⟩ (by first | exact Nat.le_refl _ | decide | omega) (by first | exact Nat.le_refl _ | decide | omega)
          exact ⟨rfl, rfl⟩
        · rw [hx_16]
          refine V_tabIn (x := nI (0 + 1)) 59 dX8_hold_16 (by decide) (by decide) rfl rfl ?_
          refine V_aload_n 60 dX8_hold_59 rfl rfl ?_
          refine V_getR 63 8 12 fl_X8_98 dX8_hold_60 rfl rfl (by decide) (Or.inr ⟨_, rfl⟩) (by decide) (sr_12 hS) ?_
          refine V_iload_n 64 dX8_hold_63 rfl rfl ?_
          refine V_ialdN 65 (_) dX8_hold_64 rfl rfl (by decide) rfl (show _ < 200 by omega) (by decide) ?_
          refine V_iret dX8_hold_65 rfl rfl ⟨_, rfl, ?_⟩ (by first | exact Nat.le_refl _ | decide | omega) (by first | exact Nat.le_refl _ | decide | omega)
          exact ⟨rfl, rfl⟩
        · rw [hx_16]
          refine V_tabIn (x := nI (0 + 2)) 66 dX8_hold_16 (by decide) (by decide) rfl rfl ?_
          refine V_aload_n 67 dX8_hold_66 rfl rfl ?_
          refine V_getR 70 8 13 fl_X8_104 dX8_hold_67 rfl rfl (by decide) (Or.inr ⟨_, rfl⟩) (by decide) (sr_13 hS) ?_
          refine V_iload_n 71 dX8_hold_70 rfl rfl ?_
          refine V_ialdN 72 (_) dX8_hold_71 rfl rfl (by decide) rfl (show _ < 200 by omega) (by decide) ?_
          refine V_iret dX8_hold_72 rfl rfl ⟨_, rfl, ?_⟩ (by first | exact Nat.le_refl _ | decide | omega) (by first | exact Nat.le_refl _ | decide | omega)
          exact ⟨rfl, rfl⟩
        · rw [hx_16]
          refine V_tabIn (x := nI (0 + 3)) 73 dX8_hold_16 (by decide) (by decide) rfl rfl ?_
          refine V_aload_n 74 dX8_hold_73 rfl rfl ?_
          refine V_getR 77 8 14 fl_X8_88 dX8_hold_74 rfl rfl (by decide) (Or.inr ⟨_, rfl⟩) (by decide) (sr_14 hS) ?_
          refine V_iload_n 78 dX8_hold_77 rfl rfl ?_
          refine V_ialdN 79 (_) dX8_hold_78 rfl rfl (by decide) rfl (show _ < 200 by omega) (by decide) ?_
          refine V_iret dX8_hold_79 rfl rfl ⟨_, rfl, ?_⟩ (by first | exact Nat.le_refl _ | decide | omega) (by first | exact Nat.le_refl _ | decide | omega)
          exact ⟨rfl, rfl⟩
        · rw [hx_16]
          refine V_tabIn (x := nI (0 + 4)) 80 dX8_hold_16 (by decide) (by decide) rfl rfl ?_
          refine V_aload_n 81 dX8_hold_80 rfl rfl ?_
          refine V_iload_n 82 dX8_hold_81 rfl rfl ?_
          refine V_cV1i 85 (ct_X8_isOpen hS e hnh ha) cs_X8_91 rfl rfl (by decide) dX8_hold_82 rfl ⟨Nat.le_of_ble_eq_true rfl, Nat.le_of_ble_eq_true rfl⟩ (Nat.le_of_ble_eq_true rfl) ⟨Nat.le_of_ble_eq_true rfl, Nat.le_of_ble_eq_true rfl⟩ (fun x h' hx hle => ?_)
          obtain ⟨rfl, rfl⟩ := hx
          refine V_if_eq 92 88 dX8_hold_85 rfl rfl (fun c_85 => ?_) (fun c_85 => ?_)
          · skip
            refine V_iconst (v := 0) 93 dX8_hold_92 rfl (by decide) ?_
            refine V_iret dX8_hold_93 rfl rfl ⟨_, rfl, ?_⟩ (by first | exact Nat.le_refl _ | decide | omega) (by first | exact Nat.le_refl _ | decide | omega)
            refine ⟨?_, rfl⟩
            show _ = (if m_open _ a then (1 : Int32) else 0)
            grind
          · skip
            refine V_iconst (v := 1) 89 dX8_hold_88 rfl (by decide) ?_
            refine V_goto 93 dX8_hold_89 rfl ?_
            refine V_iret dX8_hold_93 rfl rfl ⟨_, rfl, ?_⟩ (by first | exact Nat.le_refl _ | decide | omega) (by first | exact Nat.le_refl _ | decide | omega)
            refine ⟨?_, rfl⟩
            show _ = (if m_open _ a then (1 : Int32) else 0)
            grind
    · skip
      exact absurd (nI_lt ha (by omega)) c_9
theorem ct_X8_hold_bad {nh : Nat} {a w : Int32} (e : qg_i h 33 0 10 = nI nh) (ha : a < 0 ∨ nI nh ≤ a) : qM yX8_hold cX8_hold 3 ((some .int)) 1 21 0 0 [.inr (.inr (some (33, 0))), .inl a, .inl w] h (pI fun x h' => x = -2 ∧ h' = h) := by
  refine qM.of (plainFor_of_name (by decide)) (Nat.le_of_ble_eq_true rfl) ?_
  refine V_iload_n 1 dX8_hold_0 rfl rfl ?_
  refine V_if_lt 12 4 dX8_hold_1 rfl rfl (fun c_1 => ?_) (fun c_1 => ?_)
  · skip
    refine V_bipush (v := (-2)) 14 dX8_hold_12 rfl (by decide) ?_
    refine V_iret dX8_hold_14 rfl rfl ⟨_, rfl, ?_⟩ (by first | exact Nat.le_refl _ | decide | omega) (by first | exact Nat.le_refl _ | decide | omega)
    exact ⟨rfl, rfl⟩
  · skip
    refine V_iload_n 5 dX8_hold_4 rfl rfl ?_
    refine V_aload_n 6 dX8_hold_5 rfl rfl ?_
    refine V_getiV 9 8 10 fl_X8_81 dX8_hold_6 rfl rfl (by decide) rfl (by decide) e ?_
    refine V_icmp_lt 15 12 dX8_hold_9 rfl rfl (fun c_9 => ?_) (fun c_9 => ?_)
    · skip
      grind
    · skip
      refine V_bipush (v := (-2)) 14 dX8_hold_12 rfl (by decide) ?_
      refine V_iret dX8_hold_14 rfl rfl ⟨_, rfl, ?_⟩ (by first | exact Nat.le_refl _ | decide | omega) (by first | exact Nat.le_refl _ | decide | omega)
      exact ⟨rfl, rfl⟩
theorem ct_areUn_ok {u : Int32} (hu : 1 ≤ u ∧ u ≤ 1000000) : qM yX8_areUnits cX8_areUnits 1 ((some .boolean)) 0 0 0 0 [.inl u] h (pI fun x h' => x = 1 ∧ h' = h) := by
  refine (ct_X8_areUnits h u).weak ?_
  rintro v h' ⟨x, rfl, rfl, rfl⟩
  exact ⟨_, rfl, if_pos hu, rfl⟩
def m_req (h : qH) (nh : Nat) (a r u : Int32) : qH := qs_i (qs_i (qs_i (qs_i (qs_i (qs_i h 41 0 nh a) 42 0 nh r) 43 0 nh u) 44 0 nh (qg_i h 33 0 0)) 45 0 nh 0) 33 0 10 (nI (nh + 1))
theorem ct_X8_request_ok {na nh b r p : Nat} {u : Int32} (hS : SHR h) (ea : qg_i h 33 0 1 = nI na) (hna : na ≤ 24) (hp : WI (qg_i h 35 0) na) (e : qg_i h 33 0 10 = nI nh) (hnh : nh < 200) (hH : WH h na nh) (hb : b < na) (hr : r < 4) (hpp : p < 100) (enow : qg_i h 33 0 0 / 1000 = nI p) (hu : 1 ≤ u ∧ u ≤ 1000000) (ho : sm_i (m_open1 h) nh ≠ 40) (hro : u.toInt64 ≤ m_room h na nh p r b) : qM yX8_request cX8_request 4 ((some .int)) 3 74 0 0 [.inr (.inr (some (33, 0))), .inl (nI b), .inl (nI r), .inl u] h (pI fun x h' => x = nI nh ∧ h' = m_req h nh (nI b) (nI r) u) := by
  refine qM.of (plainFor_of_name (by decide)) (Nat.le_of_ble_eq_true rfl) ?_
  refine V_aload_n 1 dX8_request_0 rfl rfl ?_
  refine V_iload_n 2 dX8_request_1 rfl rfl ?_
  refine V_cV1i 5 (ct_isAcc_ok ea hna hb) cs_X8_11 rfl rfl (by decide) dX8_request_2 rfl ⟨Nat.le_of_ble_eq_true rfl, Nat.le_of_ble_eq_true rfl⟩ (Nat.le_of_ble_eq_true rfl) ⟨Nat.le_of_ble_eq_true rfl, Nat.le_of_ble_eq_true rfl⟩ (fun x h' hx hle => ?_)
  obtain ⟨rfl, rfl⟩ := hx
  refine V_if_eq 22 8 dX8_request_5 rfl rfl (fun c_5 => ?_) (fun c_5 => ?_)
  · skip
    exact absurd c_5 (by decide)
  · skip
    refine V_iload_n 9 dX8_request_8 rfl rfl ?_
    refine V_cS1i 12 (ct_isRes_ok hr) cs_X8_28 dX8_request_9 rfl ⟨Nat.le_of_ble_eq_true rfl, Nat.le_of_ble_eq_true rfl⟩ (Nat.le_of_ble_eq_true rfl) ⟨Nat.le_of_ble_eq_true rfl, Nat.le_of_ble_eq_true rfl⟩ (fun x h' hx hle => ?_)
    obtain ⟨rfl, rfl⟩ := hx
    refine V_if_eq 22 15 dX8_request_12 rfl rfl (fun c_12 => ?_) (fun c_12 => ?_)
    · skip
      exact absurd c_12 (by decide)
    · skip
      refine V_iload_n 16 dX8_request_15 rfl rfl ?_
      refine V_cS1i 19 (ct_areUn_ok hu) cs_X8_64 dX8_request_16 rfl ⟨Nat.le_of_ble_eq_true rfl, Nat.le_of_ble_eq_true rfl⟩ (Nat.le_of_ble_eq_true rfl) ⟨Nat.le_of_ble_eq_true rfl, Nat.le_of_ble_eq_true rfl⟩ (fun x h' hx hle => ?_)
      obtain ⟨rfl, rfl⟩ := hx
      refine V_if_ne 25 22 dX8_request_19 rfl rfl (fun c_19 => ?_) (fun c_19 => ?_)
      · skip
        refine V_aload_n 26 dX8_request_25 rfl rfl ?_
        refine V_cV0i 29 (ct_X8_open hS e (by omega)) cs_X8_122 rfl rfl (by decide) dX8_request_26 rfl ⟨Nat.le_of_ble_eq_true rfl, Nat.le_of_ble_eq_true rfl⟩ (Nat.le_of_ble_eq_true rfl) ⟨Nat.le_of_ble_eq_true rfl, Nat.le_of_ble_eq_true rfl⟩ (fun x h' hx hle => ?_)
        obtain ⟨rfl, rfl⟩ := hx
        refine V_bipush (v := 40) 31 dX8_request_29 rfl (by decide) ?_
        refine V_icmp_eq 44 34 dX8_request_31 rfl rfl (fun c_31 => ?_) (fun c_31 => ?_)
        · skip
          exact absurd c_31 ho
        · skip
          refine V_aload_n 35 dX8_request_34 rfl rfl ?_
          refine V_getiV 38 8 10 fl_X8_81 dX8_request_35 rfl rfl (by decide) rfl (by decide) e ?_
          refine V_sipush (v := 200) 41 dX8_request_38 rfl (by decide) ?_
          refine V_icmp_ne 47 44 dX8_request_41 rfl rfl (fun c_41 => ?_) (fun c_41 => ?_)
          · skip
            refine V_iload_n 48 dX8_request_47 rfl rfl ?_
            refine V_i2l 49 dX8_request_48 rfl ?_
            refine V_aload_n 50 dX8_request_49 rfl rfl ?_
            refine V_iload_n 51 dX8_request_50 rfl rfl ?_
            refine V_iload_n 52 dX8_request_51 rfl rfl ?_
            refine V_cV2l 55 (ct_X8_roomOf hS ea hna hp e (by omega) hH hr hpp enow hb) cs_X8_115 rfl rfl (by decide) dX8_request_52 rfl ⟨Nat.le_of_ble_eq_true rfl, Nat.le_of_ble_eq_true rfl⟩ (Nat.le_of_ble_eq_true rfl) ⟨Nat.le_of_ble_eq_true rfl, Nat.le_of_ble_eq_true rfl⟩ (fun x h' hx hle => ?_)
            obtain ⟨rfl, rfl⟩ := hx
            refine V_lcmp 56 dX8_request_55 rfl ?_
            refine V_if_le 62 59 dX8_request_56 rfl rfl (fun c_56 => ?_) (fun c_56 => ?_)
            · (rw [lg_le] at c_56)
              refine V_aload_n 63 dX8_request_62 rfl rfl ?_
              refine V_getR 66 8 11 fl_X8_101 dX8_request_63 rfl rfl (by decide) (Or.inr ⟨_, rfl⟩) (by decide) (sr_11 hS) ?_
              refine V_aload_n 67 dX8_request_66 rfl rfl ?_
              refine V_getiV 70 8 10 fl_X8_81 dX8_request_67 rfl rfl (by decide) rfl (by decide) e ?_
              refine V_iload_n 71 dX8_request_70 rfl rfl ?_
              refine V_iastN 72 (_) dX8_request_71 rfl rfl (by decide) rfl (show _ < 200 by omega) (by decide) ?_
              refine V_aload_n 73 dX8_request_72 rfl rfl ?_
              refine V_getR 76 8 12 fl_X8_98 dX8_request_73 rfl rfl (by decide) (Or.inr ⟨_, rfl⟩) (by decide) (sr_12 hS) ?_
              refine V_aload_n 77 dX8_request_76 rfl rfl ?_
              refine V_getiV 80 8 10 fl_X8_81 dX8_request_77 rfl rfl (by decide) rfl (by decide) e ?_
              refine V_iload_n 81 dX8_request_80 rfl rfl ?_
              refine V_iastN 82 (_) dX8_request_81 rfl rfl (by decide) rfl (show _ < 200 by omega) (by decide) ?_
              refine V_aload_n 83 dX8_request_82 rfl rfl ?_
              refine V_getR 86 8 13 fl_X8_104 dX8_request_83 rfl rfl (by decide) (Or.inr ⟨_, rfl⟩) (by decide) (sr_13 hS) ?_
              refine V_aload_n 87 dX8_request_86 rfl rfl ?_
              refine V_getiV 90 8 10 fl_X8_81 dX8_request_87 rfl rfl (by decide) rfl (by decide) e ?_
              refine V_iload_n 91 dX8_request_90 rfl rfl ?_
              refine V_iastN 92 (_) dX8_request_91 rfl rfl (by decide) rfl (show _ < 200 by omega) (by decide) ?_
              refine V_aload_n 93 dX8_request_92 rfl rfl ?_
              refine V_getR 96 8 14 fl_X8_88 dX8_request_93 rfl rfl (by decide) (Or.inr ⟨_, rfl⟩) (by decide) (sr_14 hS) ?_
              refine V_aload_n 97 dX8_request_96 rfl rfl ?_
              refine V_getiV 100 8 10 fl_X8_81 dX8_request_97 rfl rfl (by decide) rfl (by decide) e ?_
              refine V_aload_n 101 dX8_request_100 rfl rfl ?_
              refine V_geti 104 8 0 fl_X8_24 dX8_request_101 rfl rfl (by decide) rfl (by decide) ?_
              refine V_iastN 105 (_) dX8_request_104 rfl rfl (by decide) rfl (show _ < 200 by omega) (by decide) ?_
              refine V_aload_n 106 dX8_request_105 rfl rfl ?_
              refine V_getR 109 8 15 fl_X8_84 dX8_request_106 rfl rfl (by decide) (Or.inr ⟨_, rfl⟩) (by decide) (sr_15 hS) ?_
              refine V_aload_n 110 dX8_request_109 rfl rfl ?_
              refine V_getiV 113 8 10 fl_X8_81 dX8_request_110 rfl rfl (by decide) rfl (by decide) e ?_
              refine V_iconst (v := 0) 114 dX8_request_113 rfl (by decide) ?_
              refine V_zastN 115 (_) dX8_request_114 rfl rfl (by decide) rfl (show _ < 200 by omega) (by decide) rfl ?_
              refine V_aload_n 116 dX8_request_115 rfl rfl ?_
              refine V_dup 117 dX8_request_116 rfl ?_
              refine V_getiV 120 8 10 fl_X8_81 dX8_request_117 rfl rfl (by decide) rfl (by decide) e ?_
              refine V_iconst (v := 1) 121 dX8_request_120 rfl (by decide) ?_
              refine V_iadd 122 dX8_request_121 rfl ?_
              rw [nI_1]
              refine V_puti 125 8 10 fl_X8_81 dX8_request_122 rfl rfl (by decide) rfl (by decide) (Or.inl rfl) ?_
              refine V_aload_n 126 dX8_request_125 rfl rfl ?_
              refine V_getiV 129 8 10 fl_X8_81 dX8_request_126 rfl rfl (by decide) rfl (by decide) (show _ = nI (nh + 1) from rfl) ?_
              refine V_iconst (v := 1) 130 dX8_request_129 rfl (by decide) ?_
              refine V_isub 131 dX8_request_130 rfl ?_
              rw [nI_pred]
              refine V_iret dX8_request_131 rfl rfl ⟨_, rfl, ?_⟩ (by first | exact Nat.le_refl _ | decide | omega) (by first | exact Nat.le_refl _ | decide | omega)
              exact ⟨rfl, rfl⟩
            · (rw [lg_le] at c_56)
              exact absurd hro c_56
          · skip
            exact absurd (show nI nh = nI 200 from c_41) (fun q => by have := (nI_eq (by omega) (by omega)).mp q; omega)
      · skip
        exact absurd c_19 (by decide)
theorem ct_X8_request_full {na nh b r : Nat} {u : Int32} (hS : SHR h) (ea : qg_i h 33 0 1 = nI na) (hna : na ≤ 24) (e : qg_i h 33 0 10 = nI nh) (hnh : nh ≤ 200) (hb : b < na) (hr : r < 4) (hu : 1 ≤ u ∧ u ≤ 1000000) (ho : sm_i (m_open1 h) nh = 40 ∨ nh = 200) : qM yX8_request cX8_request 4 ((some .int)) 3 74 0 0 [.inr (.inr (some (33, 0))), .inl (nI b), .inl (nI r), .inl u] h (pI fun x h' => x = -3 ∧ h' = h) := by
  refine qM.of (plainFor_of_name (by decide)) (Nat.le_of_ble_eq_true rfl) ?_
  refine V_aload_n 1 dX8_request_0 rfl rfl ?_
  refine V_iload_n 2 dX8_request_1 rfl rfl ?_
  refine V_cV1i 5 (ct_isAcc_ok ea hna hb) cs_X8_11 rfl rfl (by decide) dX8_request_2 rfl ⟨Nat.le_of_ble_eq_true rfl, Nat.le_of_ble_eq_true rfl⟩ (Nat.le_of_ble_eq_true rfl) ⟨Nat.le_of_ble_eq_true rfl, Nat.le_of_ble_eq_true rfl⟩ (fun x h' hx hle => ?_)
  obtain ⟨rfl, rfl⟩ := hx
  refine V_if_eq 22 8 dX8_request_5 rfl rfl (fun c_5 => ?_) (fun c_5 => ?_)
  · skip
    exact absurd c_5 (by decide)
  · skip
    refine V_iload_n 9 dX8_request_8 rfl rfl ?_
    refine V_cS1i 12 (ct_isRes_ok hr) cs_X8_28 dX8_request_9 rfl ⟨Nat.le_of_ble_eq_true rfl, Nat.le_of_ble_eq_true rfl⟩ (Nat.le_of_ble_eq_true rfl) ⟨Nat.le_of_ble_eq_true rfl, Nat.le_of_ble_eq_true rfl⟩ (fun x h' hx hle => ?_)
    obtain ⟨rfl, rfl⟩ := hx
    refine V_if_eq 22 15 dX8_request_12 rfl rfl (fun c_12 => ?_) (fun c_12 => ?_)
    · skip
      exact absurd c_12 (by decide)
    · skip
      refine V_iload_n 16 dX8_request_15 rfl rfl ?_
      refine V_cS1i 19 (ct_areUn_ok hu) cs_X8_64 dX8_request_16 rfl ⟨Nat.le_of_ble_eq_true rfl, Nat.le_of_ble_eq_true rfl⟩ (Nat.le_of_ble_eq_true rfl) ⟨Nat.le_of_ble_eq_true rfl, Nat.le_of_ble_eq_true rfl⟩ (fun x h' hx hle => ?_)
      obtain ⟨rfl, rfl⟩ := hx
      refine V_if_ne 25 22 dX8_request_19 rfl rfl (fun c_19 => ?_) (fun c_19 => ?_)
      · skip
        refine V_aload_n 26 dX8_request_25 rfl rfl ?_
        refine V_cV0i 29 (ct_X8_open hS e hnh) cs_X8_122 rfl rfl (by decide) dX8_request_26 rfl ⟨Nat.le_of_ble_eq_true rfl, Nat.le_of_ble_eq_true rfl⟩ (Nat.le_of_ble_eq_true rfl) ⟨Nat.le_of_ble_eq_true rfl, Nat.le_of_ble_eq_true rfl⟩ (fun x h' hx hle => ?_)
        obtain ⟨rfl, rfl⟩ := hx
        refine V_bipush (v := 40) 31 dX8_request_29 rfl (by decide) ?_
        refine V_icmp_eq 44 34 dX8_request_31 rfl rfl (fun c_31 => ?_) (fun c_31 => ?_)
        · skip
          refine V_bipush (v := (-3)) 46 dX8_request_44 rfl (by decide) ?_
          refine V_iret dX8_request_46 rfl rfl ⟨_, rfl, ?_⟩ (by first | exact Nat.le_refl _ | decide | omega) (by first | exact Nat.le_refl _ | decide | omega)
          exact ⟨rfl, rfl⟩
        · skip
          refine V_aload_n 35 dX8_request_34 rfl rfl ?_
          refine V_getiV 38 8 10 fl_X8_81 dX8_request_35 rfl rfl (by decide) rfl (by decide) e ?_
          refine V_sipush (v := 200) 41 dX8_request_38 rfl (by decide) ?_
          refine V_icmp_ne 47 44 dX8_request_41 rfl rfl (fun c_41 => ?_) (fun c_41 => ?_)
          · skip
            exact absurd (by rcases ho with q | q; exact absurd q c_31; rw [q]; rfl) c_41
          · skip
            refine V_bipush (v := (-3)) 46 dX8_request_44 rfl (by decide) ?_
            refine V_iret dX8_request_46 rfl rfl ⟨_, rfl, ?_⟩ (by first | exact Nat.le_refl _ | decide | omega) (by first | exact Nat.le_refl _ | decide | omega)
            exact ⟨rfl, rfl⟩
      · skip
        exact absurd c_19 (by decide)
theorem ct_X8_request_ref {na nh b r p : Nat} {u : Int32} (hS : SHR h) (ea : qg_i h 33 0 1 = nI na) (hna : na ≤ 24) (hp : WI (qg_i h 35 0) na) (e : qg_i h 33 0 10 = nI nh) (hnh : nh < 200) (hH : WH h na nh) (hb : b < na) (hr : r < 4) (hpp : p < 100) (enow : qg_i h 33 0 0 / 1000 = nI p) (hu : 1 ≤ u ∧ u ≤ 1000000) (ho : sm_i (m_open1 h) nh ≠ 40) (hro : ¬ u.toInt64 ≤ m_room h na nh p r b) : qM yX8_request cX8_request 4 ((some .int)) 3 74 0 0 [.inr (.inr (some (33, 0))), .inl (nI b), .inl (nI r), .inl u] h (pI fun x h' => x = -7 ∧ h' = h) := by
  refine qM.of (plainFor_of_name (by decide)) (Nat.le_of_ble_eq_true rfl) ?_
  refine V_aload_n 1 dX8_request_0 rfl rfl ?_
  refine V_iload_n 2 dX8_request_1 rfl rfl ?_
  refine V_cV1i 5 (ct_isAcc_ok ea hna hb) cs_X8_11 rfl rfl (by decide) dX8_request_2 rfl ⟨Nat.le_of_ble_eq_true rfl, Nat.le_of_ble_eq_true rfl⟩ (Nat.le_of_ble_eq_true rfl) ⟨Nat.le_of_ble_eq_true rfl, Nat.le_of_ble_eq_true rfl⟩ (fun x h' hx hle => ?_)
  obtain ⟨rfl, rfl⟩ := hx
  refine V_if_eq 22 8 dX8_request_5 rfl rfl (fun c_5 => ?_) (fun c_5 => ?_)
  · skip
    exact absurd c_5 (by decide)
  · skip
    refine V_iload_n 9 dX8_request_8 rfl rfl ?_
    refine V_cS1i 12 (ct_isRes_ok hr) cs_X8_28 dX8_request_9 rfl ⟨Nat.le_of_ble_eq_true rfl, Nat.le_of_ble_eq_true rfl⟩ (Nat.le_of_ble_eq_true rfl) ⟨Nat.le_of_ble_eq_true rfl, Nat.le_of_ble_eq_true rfl⟩ (fun x h' hx hle => ?_)
    obtain ⟨rfl, rfl⟩ := hx
    refine V_if_eq 22 15 dX8_request_12 rfl rfl (fun c_12 => ?_) (fun c_12 => ?_)
    · skip
      exact absurd c_12 (by decide)
    · skip
      refine V_iload_n 16 dX8_request_15 rfl rfl ?_
      refine V_cS1i 19 (ct_areUn_ok hu) cs_X8_64 dX8_request_16 rfl ⟨Nat.le_of_ble_eq_true rfl, Nat.le_of_ble_eq_true rfl⟩ (Nat.le_of_ble_eq_true rfl) ⟨Nat.le_of_ble_eq_true rfl, Nat.le_of_ble_eq_true rfl⟩ (fun x h' hx hle => ?_)
      obtain ⟨rfl, rfl⟩ := hx
      refine V_if_ne 25 22 dX8_request_19 rfl rfl (fun c_19 => ?_) (fun c_19 => ?_)
      · skip
        refine V_aload_n 26 dX8_request_25 rfl rfl ?_
        refine V_cV0i 29 (ct_X8_open hS e (by omega)) cs_X8_122 rfl rfl (by decide) dX8_request_26 rfl ⟨Nat.le_of_ble_eq_true rfl, Nat.le_of_ble_eq_true rfl⟩ (Nat.le_of_ble_eq_true rfl) ⟨Nat.le_of_ble_eq_true rfl, Nat.le_of_ble_eq_true rfl⟩ (fun x h' hx hle => ?_)
        obtain ⟨rfl, rfl⟩ := hx
        refine V_bipush (v := 40) 31 dX8_request_29 rfl (by decide) ?_
        refine V_icmp_eq 44 34 dX8_request_31 rfl rfl (fun c_31 => ?_) (fun c_31 => ?_)
        · skip
          exact absurd c_31 ho
        · skip
          refine V_aload_n 35 dX8_request_34 rfl rfl ?_
          refine V_getiV 38 8 10 fl_X8_81 dX8_request_35 rfl rfl (by decide) rfl (by decide) e ?_
          refine V_sipush (v := 200) 41 dX8_request_38 rfl (by decide) ?_
          refine V_icmp_ne 47 44 dX8_request_41 rfl rfl (fun c_41 => ?_) (fun c_41 => ?_)
          · skip
            refine V_iload_n 48 dX8_request_47 rfl rfl ?_
            refine V_i2l 49 dX8_request_48 rfl ?_
            refine V_aload_n 50 dX8_request_49 rfl rfl ?_
            refine V_iload_n 51 dX8_request_50 rfl rfl ?_
            refine V_iload_n 52 dX8_request_51 rfl rfl ?_
            refine V_cV2l 55 (ct_X8_roomOf hS ea hna hp e (by omega) hH hr hpp enow hb) cs_X8_115 rfl rfl (by decide) dX8_request_52 rfl ⟨Nat.le_of_ble_eq_true rfl, Nat.le_of_ble_eq_true rfl⟩ (Nat.le_of_ble_eq_true rfl) ⟨Nat.le_of_ble_eq_true rfl, Nat.le_of_ble_eq_true rfl⟩ (fun x h' hx hle => ?_)
            obtain ⟨rfl, rfl⟩ := hx
            refine V_lcmp 56 dX8_request_55 rfl ?_
            refine V_if_le 62 59 dX8_request_56 rfl rfl (fun c_56 => ?_) (fun c_56 => ?_)
            · (rw [lg_le] at c_56)
              exact absurd c_56 hro
            · (rw [lg_le] at c_56)
              refine V_bipush (v := (-7)) 61 dX8_request_59 rfl (by decide) ?_
              refine V_iret dX8_request_61 rfl rfl ⟨_, rfl, ?_⟩ (by first | exact Nat.le_refl _ | decide | omega) (by first | exact Nat.le_refl _ | decide | omega)
              exact ⟨rfl, rfl⟩
          · skip
            exact absurd (show nI nh = nI 200 from c_41) (fun q => by have := (nI_eq (by omega) (by omega)).mp q; omega)
      · skip
        exact absurd c_19 (by decide)
theorem ct_X8_request_bad {a r u : Int32} (hbad : ¬ ((0 ≤ a ∧ a < qg_i h 33 0 1) ∧ (0 ≤ r ∧ r < 4) ∧ (1 ≤ u ∧ u ≤ 1000000))) : qM yX8_request cX8_request 4 ((some .int)) 3 74 0 0 [.inr (.inr (some (33, 0))), .inl a, .inl r, .inl u] h (pI fun x h' => x = -2 ∧ h' = h) := by
  refine qM.of (plainFor_of_name (by decide)) (Nat.le_of_ble_eq_true rfl) ?_
  refine V_aload_n 1 dX8_request_0 rfl rfl ?_
  refine V_iload_n 2 dX8_request_1 rfl rfl ?_
  refine V_cV1i 5 (ct_X8_isAccount _ _) cs_X8_11 rfl rfl (by decide) dX8_request_2 rfl ⟨Nat.le_of_ble_eq_true rfl, Nat.le_of_ble_eq_true rfl⟩ (Nat.le_of_ble_eq_true rfl) ⟨Nat.le_of_ble_eq_true rfl, Nat.le_of_ble_eq_true rfl⟩ (fun x h' hx hle => ?_)
  obtain ⟨rfl, rfl⟩ := hx
  refine V_if_eq 22 8 dX8_request_5 rfl rfl (fun c_5 => ?_) (fun c_5 => ?_)
  · skip
    refine V_bipush (v := (-2)) 24 dX8_request_22 rfl (by decide) ?_
    refine V_iret dX8_request_24 rfl rfl ⟨_, rfl, ?_⟩ (by first | exact Nat.le_refl _ | decide | omega) (by first | exact Nat.le_refl _ | decide | omega)
    exact ⟨rfl, rfl⟩
  · skip
    refine V_iload_n 9 dX8_request_8 rfl rfl ?_
    refine V_cS1i 12 (ct_X8_isResource _ _) cs_X8_28 dX8_request_9 rfl ⟨Nat.le_of_ble_eq_true rfl, Nat.le_of_ble_eq_true rfl⟩ (Nat.le_of_ble_eq_true rfl) ⟨Nat.le_of_ble_eq_true rfl, Nat.le_of_ble_eq_true rfl⟩ (fun x h' hx hle => ?_)
    obtain ⟨rfl, rfl⟩ := hx
    refine V_if_eq 22 15 dX8_request_12 rfl rfl (fun c_12 => ?_) (fun c_12 => ?_)
    · skip
      refine V_bipush (v := (-2)) 24 dX8_request_22 rfl (by decide) ?_
      refine V_iret dX8_request_24 rfl rfl ⟨_, rfl, ?_⟩ (by first | exact Nat.le_refl _ | decide | omega) (by first | exact Nat.le_refl _ | decide | omega)
      exact ⟨rfl, rfl⟩
    · skip
      refine V_iload_n 16 dX8_request_15 rfl rfl ?_
      refine V_cS1i 19 (ct_X8_areUnits _ _) cs_X8_64 dX8_request_16 rfl ⟨Nat.le_of_ble_eq_true rfl, Nat.le_of_ble_eq_true rfl⟩ (Nat.le_of_ble_eq_true rfl) ⟨Nat.le_of_ble_eq_true rfl, Nat.le_of_ble_eq_true rfl⟩ (fun x h' hx hle => ?_)
      obtain ⟨rfl, rfl⟩ := hx
      refine V_if_ne 25 22 dX8_request_19 rfl rfl (fun c_19 => ?_) (fun c_19 => ?_)
      · skip
        exfalso; grind
      · skip
        refine V_bipush (v := (-2)) 24 dX8_request_22 rfl (by decide) ?_
        refine V_iret dX8_request_24 rfl rfl ⟨_, rfl, ?_⟩ (by first | exact Nat.le_refl _ | decide | omega) (by first | exact Nat.le_refl _ | decide | omega)
        exact ⟨rfl, rfl⟩
theorem ct_X8_mode_ok {t r : Nat} {m z : Int32} (hS : SHR h) (ht : t < 6) (hr : r < 4) (hm : 0 ≤ m ∧ m ≤ 2) (hz : 1 ≤ z ∧ z ≤ 100000) : qM yX8_mode cX8_mode 5 ((some .int)) 1 21 0 0 [.inr (.inr (some (33, 0))), .inl (nI t), .inl (nI r), .inl m, .inl z] h (pI fun x h' => x = 0 ∧ h' = qs_l (qs_l h 46 0 (18 * (4 * t + r)) m.toInt64) 46 0 (18 * (4 * t + r) + 1) z.toInt64) := by
  refine qM.of (plainFor_of_name (by decide)) (Nat.le_of_ble_eq_true rfl) ?_
  refine V_iload_n 1 dX8_mode_0 rfl rfl ?_
  refine V_cS1i 4 (ct_isTen_ok ht) cs_X8_7 dX8_mode_1 rfl ⟨Nat.le_of_ble_eq_true rfl, Nat.le_of_ble_eq_true rfl⟩ (Nat.le_of_ble_eq_true rfl) ⟨Nat.le_of_ble_eq_true rfl, Nat.le_of_ble_eq_true rfl⟩ (fun x h' hx hle => ?_)
  obtain ⟨rfl, rfl⟩ := hx
  refine V_if_eq 36 7 dX8_mode_4 rfl rfl (fun c_4 => ?_) (fun c_4 => ?_)
  · skip
    exact absurd c_4 (by decide)
  · skip
    refine V_iload_n 8 dX8_mode_7 rfl rfl ?_
    refine V_cS1i 11 (ct_isRes_ok hr) cs_X8_28 dX8_mode_8 rfl ⟨Nat.le_of_ble_eq_true rfl, Nat.le_of_ble_eq_true rfl⟩ (Nat.le_of_ble_eq_true rfl) ⟨Nat.le_of_ble_eq_true rfl, Nat.le_of_ble_eq_true rfl⟩ (fun x h' hx hle => ?_)
    obtain ⟨rfl, rfl⟩ := hx
    refine V_if_eq 36 14 dX8_mode_11 rfl rfl (fun c_11 => ?_) (fun c_11 => ?_)
    · skip
      exact absurd c_11 (by decide)
    · skip
      refine V_iload_n 15 dX8_mode_14 rfl rfl ?_
      refine V_if_lt 36 18 dX8_mode_15 rfl rfl (fun c_15 => ?_) (fun c_15 => ?_)
      · skip
        grind
      · skip
        refine V_iload_n 19 dX8_mode_18 rfl rfl ?_
        refine V_iconst (v := 2) 20 dX8_mode_19 rfl (by decide) ?_
        refine V_icmp_gt 36 23 dX8_mode_20 rfl rfl (fun c_20 => ?_) (fun c_20 => ?_)
        · skip
          grind
        · skip
          refine V_iload 25 dX8_mode_23 rfl rfl ?_
          refine V_iconst (v := 1) 26 dX8_mode_25 rfl (by decide) ?_
          refine V_icmp_lt 36 29 dX8_mode_26 rfl rfl (fun c_26 => ?_) (fun c_26 => ?_)
          · skip
            grind
          · skip
            refine V_iload 31 dX8_mode_29 rfl rfl ?_
            refine V_ldc (v := 100000) 33 dX8_mode_31 rfl wc_X8_173 ?_
            refine V_icmp_le 39 36 dX8_mode_33 rfl rfl (fun c_33 => ?_) (fun c_33 => ?_)
            · skip
              refine V_aload_n 40 dX8_mode_39 rfl rfl ?_
              refine V_getR 43 8 16 fl_X8_131 dX8_mode_40 rfl rfl (by decide) (Or.inr ⟨_, rfl⟩) (by decide) (sr_16 hS) ?_
              refine V_iload_n 44 dX8_mode_43 rfl rfl ?_
              refine V_iload_n 45 dX8_mode_44 rfl rfl ?_
              refine V_cS2i 48 (ct_X8_row _ _ _) cs_X8_174 dX8_mode_45 rfl ⟨Nat.le_of_ble_eq_true rfl, Nat.le_of_ble_eq_true rfl⟩ (Nat.le_of_ble_eq_true rfl) ⟨Nat.le_of_ble_eq_true rfl, Nat.le_of_ble_eq_true rfl⟩ (fun x h' hx hle => ?_)
              obtain ⟨rfl, rfl⟩ := hx
              refine V_iload_n 49 dX8_mode_48 rfl rfl ?_
              refine V_i2l 50 dX8_mode_49 rfl ?_
              refine V_lastN 51 (_) dX8_mode_50 rfl rfl (by decide) rfl (show _ < 4752 by omega) (by decide) ?_
              refine V_aload_n 52 dX8_mode_51 rfl rfl ?_
              refine V_getR 55 8 16 fl_X8_131 dX8_mode_52 rfl rfl (by decide) (Or.inr ⟨_, rfl⟩) (by decide) (sr_16 hS) ?_
              refine V_iload_n 56 dX8_mode_55 rfl rfl ?_
              refine V_iload_n 57 dX8_mode_56 rfl rfl ?_
              refine V_cS2i 60 (ct_X8_row _ _ _) cs_X8_174 dX8_mode_57 rfl ⟨Nat.le_of_ble_eq_true rfl, Nat.le_of_ble_eq_true rfl⟩ (Nat.le_of_ble_eq_true rfl) ⟨Nat.le_of_ble_eq_true rfl, Nat.le_of_ble_eq_true rfl⟩ (fun x h' hx hle => ?_)
              obtain ⟨rfl, rfl⟩ := hx
              refine V_iconst (v := 1) 61 dX8_mode_60 rfl (by decide) ?_
              refine V_iadd 62 dX8_mode_61 rfl ?_
              refine V_iload 64 dX8_mode_62 rfl rfl ?_
              refine V_i2l 65 dX8_mode_64 rfl ?_
              refine V_lastN 66 (18 * (4 * t + r) + 1) dX8_mode_65 rfl rfl (by decide) (nI_1 _) (show _ < 4752 by omega) (by decide) ?_
              refine V_iconst (v := 0) 67 dX8_mode_66 rfl (by decide) ?_
              refine V_iret dX8_mode_67 rfl rfl ⟨_, rfl, ?_⟩ (by first | exact Nat.le_refl _ | decide | omega) (by first | exact Nat.le_refl _ | decide | omega)
              exact ⟨rfl, rfl⟩
            · skip
              grind
theorem ct_X8_mode_bad {t r m z : Int32} (hbad : ¬ ((0 ≤ t ∧ t < 6) ∧ (0 ≤ r ∧ r < 4) ∧ (0 ≤ m ∧ m ≤ 2) ∧ (1 ≤ z ∧ z ≤ 100000))) : qM yX8_mode cX8_mode 5 ((some .int)) 1 21 0 0 [.inr (.inr (some (33, 0))), .inl t, .inl r, .inl m, .inl z] h (pI fun x h' => x = -2 ∧ h' = h) := by
  refine qM.of (plainFor_of_name (by decide)) (Nat.le_of_ble_eq_true rfl) ?_
  refine V_iload_n 1 dX8_mode_0 rfl rfl ?_
  refine V_cS1i 4 (ct_X8_isTenant _ _) cs_X8_7 dX8_mode_1 rfl ⟨Nat.le_of_ble_eq_true rfl, Nat.le_of_ble_eq_true rfl⟩ (Nat.le_of_ble_eq_true rfl) ⟨Nat.le_of_ble_eq_true rfl, Nat.le_of_ble_eq_true rfl⟩ (fun x h' hx hle => ?_)
  obtain ⟨rfl, rfl⟩ := hx
  refine V_if_eq 36 7 dX8_mode_4 rfl rfl (fun c_4 => ?_) (fun c_4 => ?_)
  · skip
    refine V_bipush (v := (-2)) 38 dX8_mode_36 rfl (by decide) ?_
    refine V_iret dX8_mode_38 rfl rfl ⟨_, rfl, ?_⟩ (by first | exact Nat.le_refl _ | decide | omega) (by first | exact Nat.le_refl _ | decide | omega)
    exact ⟨rfl, rfl⟩
  · skip
    refine V_iload_n 8 dX8_mode_7 rfl rfl ?_
    refine V_cS1i 11 (ct_X8_isResource _ _) cs_X8_28 dX8_mode_8 rfl ⟨Nat.le_of_ble_eq_true rfl, Nat.le_of_ble_eq_true rfl⟩ (Nat.le_of_ble_eq_true rfl) ⟨Nat.le_of_ble_eq_true rfl, Nat.le_of_ble_eq_true rfl⟩ (fun x h' hx hle => ?_)
    obtain ⟨rfl, rfl⟩ := hx
    refine V_if_eq 36 14 dX8_mode_11 rfl rfl (fun c_11 => ?_) (fun c_11 => ?_)
    · skip
      refine V_bipush (v := (-2)) 38 dX8_mode_36 rfl (by decide) ?_
      refine V_iret dX8_mode_38 rfl rfl ⟨_, rfl, ?_⟩ (by first | exact Nat.le_refl _ | decide | omega) (by first | exact Nat.le_refl _ | decide | omega)
      exact ⟨rfl, rfl⟩
    · skip
      refine V_iload_n 15 dX8_mode_14 rfl rfl ?_
      refine V_if_lt 36 18 dX8_mode_15 rfl rfl (fun c_15 => ?_) (fun c_15 => ?_)
      · skip
        refine V_bipush (v := (-2)) 38 dX8_mode_36 rfl (by decide) ?_
        refine V_iret dX8_mode_38 rfl rfl ⟨_, rfl, ?_⟩ (by first | exact Nat.le_refl _ | decide | omega) (by first | exact Nat.le_refl _ | decide | omega)
        exact ⟨rfl, rfl⟩
      · skip
        refine V_iload_n 19 dX8_mode_18 rfl rfl ?_
        refine V_iconst (v := 2) 20 dX8_mode_19 rfl (by decide) ?_
        refine V_icmp_gt 36 23 dX8_mode_20 rfl rfl (fun c_20 => ?_) (fun c_20 => ?_)
        · skip
          refine V_bipush (v := (-2)) 38 dX8_mode_36 rfl (by decide) ?_
          refine V_iret dX8_mode_38 rfl rfl ⟨_, rfl, ?_⟩ (by first | exact Nat.le_refl _ | decide | omega) (by first | exact Nat.le_refl _ | decide | omega)
          exact ⟨rfl, rfl⟩
        · skip
          refine V_iload 25 dX8_mode_23 rfl rfl ?_
          refine V_iconst (v := 1) 26 dX8_mode_25 rfl (by decide) ?_
          refine V_icmp_lt 36 29 dX8_mode_26 rfl rfl (fun c_26 => ?_) (fun c_26 => ?_)
          · skip
            refine V_bipush (v := (-2)) 38 dX8_mode_36 rfl (by decide) ?_
            refine V_iret dX8_mode_38 rfl rfl ⟨_, rfl, ?_⟩ (by first | exact Nat.le_refl _ | decide | omega) (by first | exact Nat.le_refl _ | decide | omega)
            exact ⟨rfl, rfl⟩
          · skip
            refine V_iload 31 dX8_mode_29 rfl rfl ?_
            refine V_ldc (v := 100000) 33 dX8_mode_31 rfl wc_X8_173 ?_
            refine V_icmp_le 39 36 dX8_mode_33 rfl rfl (fun c_33 => ?_) (fun c_33 => ?_)
            · skip
              exfalso; grind
            · skip
              refine V_bipush (v := (-2)) 38 dX8_mode_36 rfl (by decide) ?_
              refine V_iret dX8_mode_38 rfl rfl ⟨_, rfl, ?_⟩ (by first | exact Nat.le_refl _ | decide | omega) (by first | exact Nat.le_refl _ | decide | omega)
              exact ⟨rfl, rfl⟩
def m_min (x y : Int64) : Int64 := if y < x then y else x
theorem ct_X8_tiers_ok {t r : Nat} {m : Int32} (hS : SHR h) (ht : t < 6) (hr : r < 4) (hm : 1 ≤ m ∧ m ≤ 5) : qM yX8_tiers cX8_tiers 5 ((some .int)) 1 23 0 0 [.inr (.inr (some (33, 0))), .inl (nI t), .inl (nI r), .inl m] h (pI fun x h' => x = (m_min m.toInt64 (qg_l h 46 0 (18 * (4 * t + r) + 2))).toInt32 ∧ h' = qs_l h 46 0 (18 * (4 * t + r) + 2) (m_min m.toInt64 (qg_l h 46 0 (18 * (4 * t + r) + 2)))) := by
  refine qM.of (plainFor_of_name (by decide)) (Nat.le_of_ble_eq_true rfl) ?_
  refine V_iload_n 1 dX8_tiers_0 rfl rfl ?_
  refine V_cS1i 4 (ct_isTen_ok ht) cs_X8_7 dX8_tiers_1 rfl ⟨Nat.le_of_ble_eq_true rfl, Nat.le_of_ble_eq_true rfl⟩ (Nat.le_of_ble_eq_true rfl) ⟨Nat.le_of_ble_eq_true rfl, Nat.le_of_ble_eq_true rfl⟩ (fun x h' hx hle => ?_)
  obtain ⟨rfl, rfl⟩ := hx
  refine V_if_eq 24 7 dX8_tiers_4 rfl rfl (fun c_4 => ?_) (fun c_4 => ?_)
  · skip
    exact absurd c_4 (by decide)
  · skip
    refine V_iload_n 8 dX8_tiers_7 rfl rfl ?_
    refine V_cS1i 11 (ct_isRes_ok hr) cs_X8_28 dX8_tiers_8 rfl ⟨Nat.le_of_ble_eq_true rfl, Nat.le_of_ble_eq_true rfl⟩ (Nat.le_of_ble_eq_true rfl) ⟨Nat.le_of_ble_eq_true rfl, Nat.le_of_ble_eq_true rfl⟩ (fun x h' hx hle => ?_)
    obtain ⟨rfl, rfl⟩ := hx
    refine V_if_eq 24 14 dX8_tiers_11 rfl rfl (fun c_11 => ?_) (fun c_11 => ?_)
    · skip
      exact absurd c_11 (by decide)
    · skip
      refine V_iload_n 15 dX8_tiers_14 rfl rfl ?_
      refine V_iconst (v := 1) 16 dX8_tiers_15 rfl (by decide) ?_
      refine V_icmp_lt 24 19 dX8_tiers_16 rfl rfl (fun c_16 => ?_) (fun c_16 => ?_)
      · skip
        grind
      · skip
        refine V_iload_n 20 dX8_tiers_19 rfl rfl ?_
        refine V_iconst (v := 5) 21 dX8_tiers_20 rfl (by decide) ?_
        refine V_icmp_le 27 24 dX8_tiers_21 rfl rfl (fun c_21 => ?_) (fun c_21 => ?_)
        · skip
          refine V_iload_n 28 dX8_tiers_27 rfl rfl ?_
          refine V_iload_n 29 dX8_tiers_28 rfl rfl ?_
          refine V_cS2i 32 (ct_X8_row _ _ _) cs_X8_174 dX8_tiers_29 rfl ⟨Nat.le_of_ble_eq_true rfl, Nat.le_of_ble_eq_true rfl⟩ (Nat.le_of_ble_eq_true rfl) ⟨Nat.le_of_ble_eq_true rfl, Nat.le_of_ble_eq_true rfl⟩ (fun x h' hx hle => ?_)
          obtain ⟨rfl, rfl⟩ := hx
          refine V_iconst (v := 2) 33 dX8_tiers_32 rfl (by decide) ?_
          refine V_iadd 34 dX8_tiers_33 rfl ?_
          rw [show nI (18 * (4 * t + r)) + 2 = nI (18 * (4 * t + r) + 2) from nI_add _ 2]
          refine V_istore 36 dX8_tiers_34 rfl (by decide) ?_
          refine V_aload_n 37 dX8_tiers_36 rfl rfl ?_
          refine V_getR 40 8 16 fl_X8_131 dX8_tiers_37 rfl rfl (by decide) (Or.inr ⟨_, rfl⟩) (by decide) (sr_16 hS) ?_
          refine V_iload 42 dX8_tiers_40 rfl rfl ?_
          refine V_iload_n 43 dX8_tiers_42 rfl rfl ?_
          refine V_i2l 44 dX8_tiers_43 rfl ?_
          refine V_aload_n 45 dX8_tiers_44 rfl rfl ?_
          refine V_getR 48 8 16 fl_X8_131 dX8_tiers_45 rfl rfl (by decide) (Or.inr ⟨_, rfl⟩) (by decide) (sr_16 hS) ?_
          refine V_iload 50 dX8_tiers_48 rfl rfl ?_
          refine V_laldN 51 (_) dX8_tiers_50 rfl rfl (by decide) rfl (show _ < 4752 by omega) (by decide) ?_
          refine V_cS2l 54 (ct_J9_min_f86c9 _ _ _) cs_X8_109 dX8_tiers_51 rfl ⟨Nat.le_of_ble_eq_true rfl, Nat.le_of_ble_eq_true rfl⟩ (Nat.le_of_ble_eq_true rfl) ⟨Nat.le_of_ble_eq_true rfl, Nat.le_of_ble_eq_true rfl⟩ (fun x h' hx hle => ?_)
          obtain ⟨rfl, rfl⟩ := hx
          refine V_lastN 55 (_) dX8_tiers_54 rfl rfl (by decide) rfl (show _ < 4752 by omega) (by decide) ?_
          refine V_aload_n 56 dX8_tiers_55 rfl rfl ?_
          refine V_getR 59 8 16 fl_X8_131 dX8_tiers_56 rfl rfl (by decide) (Or.inr ⟨_, rfl⟩) (by decide) (sr_16 hS) ?_
          refine V_iload 61 dX8_tiers_59 rfl rfl ?_
          refine V_laldN 62 (_) dX8_tiers_61 rfl rfl (by decide) rfl (show _ < 4752 by omega) (by decide) ?_
          refine V_l2i 63 dX8_tiers_62 rfl ?_
          refine V_iret dX8_tiers_63 rfl rfl ⟨_, rfl, ?_⟩ (by first | exact Nat.le_refl _ | decide | omega) (by first | exact Nat.le_refl _ | decide | omega)
          refine ⟨?_, rfl⟩
          simp [qll, m_min]
        · skip
          grind
theorem ct_X8_tiers_bad {t r m : Int32} (hbad : ¬ ((0 ≤ t ∧ t < 6) ∧ (0 ≤ r ∧ r < 4) ∧ (1 ≤ m ∧ m ≤ 5))) : qM yX8_tiers cX8_tiers 5 ((some .int)) 1 23 0 0 [.inr (.inr (some (33, 0))), .inl t, .inl r, .inl m] h (pI fun x h' => x = -2 ∧ h' = h) := by
  refine qM.of (plainFor_of_name (by decide)) (Nat.le_of_ble_eq_true rfl) ?_
  refine V_iload_n 1 dX8_tiers_0 rfl rfl ?_
  refine V_cS1i 4 (ct_X8_isTenant _ _) cs_X8_7 dX8_tiers_1 rfl ⟨Nat.le_of_ble_eq_true rfl, Nat.le_of_ble_eq_true rfl⟩ (Nat.le_of_ble_eq_true rfl) ⟨Nat.le_of_ble_eq_true rfl, Nat.le_of_ble_eq_true rfl⟩ (fun x h' hx hle => ?_)
  obtain ⟨rfl, rfl⟩ := hx
  refine V_if_eq 24 7 dX8_tiers_4 rfl rfl (fun c_4 => ?_) (fun c_4 => ?_)
  · skip
    refine V_bipush (v := (-2)) 26 dX8_tiers_24 rfl (by decide) ?_
    refine V_iret dX8_tiers_26 rfl rfl ⟨_, rfl, ?_⟩ (by first | exact Nat.le_refl _ | decide | omega) (by first | exact Nat.le_refl _ | decide | omega)
    exact ⟨rfl, rfl⟩
  · skip
    refine V_iload_n 8 dX8_tiers_7 rfl rfl ?_
    refine V_cS1i 11 (ct_X8_isResource _ _) cs_X8_28 dX8_tiers_8 rfl ⟨Nat.le_of_ble_eq_true rfl, Nat.le_of_ble_eq_true rfl⟩ (Nat.le_of_ble_eq_true rfl) ⟨Nat.le_of_ble_eq_true rfl, Nat.le_of_ble_eq_true rfl⟩ (fun x h' hx hle => ?_)
    obtain ⟨rfl, rfl⟩ := hx
    refine V_if_eq 24 14 dX8_tiers_11 rfl rfl (fun c_11 => ?_) (fun c_11 => ?_)
    · skip
      refine V_bipush (v := (-2)) 26 dX8_tiers_24 rfl (by decide) ?_
      refine V_iret dX8_tiers_26 rfl rfl ⟨_, rfl, ?_⟩ (by first | exact Nat.le_refl _ | decide | omega) (by first | exact Nat.le_refl _ | decide | omega)
      exact ⟨rfl, rfl⟩
    · skip
      refine V_iload_n 15 dX8_tiers_14 rfl rfl ?_
      refine V_iconst (v := 1) 16 dX8_tiers_15 rfl (by decide) ?_
      refine V_icmp_lt 24 19 dX8_tiers_16 rfl rfl (fun c_16 => ?_) (fun c_16 => ?_)
      · skip
        refine V_bipush (v := (-2)) 26 dX8_tiers_24 rfl (by decide) ?_
        refine V_iret dX8_tiers_26 rfl rfl ⟨_, rfl, ?_⟩ (by first | exact Nat.le_refl _ | decide | omega) (by first | exact Nat.le_refl _ | decide | omega)
        exact ⟨rfl, rfl⟩
      · skip
        refine V_iload_n 20 dX8_tiers_19 rfl rfl ?_
        refine V_iconst (v := 5) 21 dX8_tiers_20 rfl (by decide) ?_
        refine V_icmp_le 27 24 dX8_tiers_21 rfl rfl (fun c_21 => ?_) (fun c_21 => ?_)
        · skip
          exfalso; grind
        · skip
          refine V_bipush (v := (-2)) 26 dX8_tiers_24 rfl (by decide) ?_
          refine V_iret dX8_tiers_26 rfl rfl ⟨_, rfl, ?_⟩ (by first | exact Nat.le_refl _ | decide | omega) (by first | exact Nat.le_refl _ | decide | omega)
          exact ⟨rfl, rfl⟩
theorem ct_X8_terms_ok {t : Nat} {d x : Int32} {m : Int64} (hS : SHR h) (ht : t < 6) (hd : 0 ≤ d ∧ d ≤ 10000) (hm : 0 ≤ m ∧ m ≤ 1000000000000) (hx : 0 ≤ x ∧ x ≤ 10000) : qM yX8_terms cX8_terms 6 ((some .int)) 1 20 0 0 [.inr (.inr (some (33, 0))), .inl (nI t), .inl d, .inr (.inl m), .inl x] h (pI fun v h' => v = 0 ∧ h' = qs_i (qs_l (qs_i h 47 0 t d) 48 0 t m) 49 0 t x) := by
  refine qM.of (plainFor_of_name (by decide)) (Nat.le_of_ble_eq_true rfl) ?_
  refine V_iload_n 1 dX8_terms_0 rfl rfl ?_
  refine V_cS1i 4 (ct_isTen_ok ht) cs_X8_7 dX8_terms_1 rfl ⟨Nat.le_of_ble_eq_true rfl, Nat.le_of_ble_eq_true rfl⟩ (Nat.le_of_ble_eq_true rfl) ⟨Nat.le_of_ble_eq_true rfl, Nat.le_of_ble_eq_true rfl⟩ (fun x h' hx hle => ?_)
  obtain ⟨rfl, rfl⟩ := hx
  refine V_if_eq 45 7 dX8_terms_4 rfl rfl (fun c_4 => ?_) (fun c_4 => ?_)
  · skip
    exact absurd c_4 (by decide)
  · skip
    refine V_iload_n 8 dX8_terms_7 rfl rfl ?_
    refine V_if_lt 45 11 dX8_terms_8 rfl rfl (fun c_8 => ?_) (fun c_8 => ?_)
    · skip
      grind
    · skip
      refine V_iload_n 12 dX8_terms_11 rfl rfl ?_
      refine V_sipush (v := 10000) 15 dX8_terms_12 rfl (by decide) ?_
      refine V_icmp_gt 45 18 dX8_terms_15 rfl rfl (fun c_15 => ?_) (fun c_15 => ?_)
      · skip
        grind
      · skip
        refine V_lload_n 19 dX8_terms_18 rfl rfl ?_
        refine V_lconst (v := 0) 20 dX8_terms_19 rfl (by decide) ?_
        refine V_lcmp 21 dX8_terms_20 rfl ?_
        refine V_if_lt 45 24 dX8_terms_21 rfl rfl (fun c_21 => ?_) (fun c_21 => ?_)
        · (rw [lg_lt] at c_21)
          grind
        · (rw [lg_lt] at c_21)
          refine V_lload_n 25 dX8_terms_24 rfl rfl ?_
          refine V_ldc2 (v := 1000000000000) 28 dX8_terms_25 rfl wc_X8_185 ?_
          refine V_lcmp 29 dX8_terms_28 rfl ?_
          refine V_if_gt 45 32 dX8_terms_29 rfl rfl (fun c_29 => ?_) (fun c_29 => ?_)
          · (rw [lg_gt] at c_29)
            grind
          · (rw [lg_gt] at c_29)
            refine V_iload 34 dX8_terms_32 rfl rfl ?_
            refine V_if_lt 45 37 dX8_terms_34 rfl rfl (fun c_34 => ?_) (fun c_34 => ?_)
            · skip
              grind
            · skip
              refine V_iload 39 dX8_terms_37 rfl rfl ?_
              refine V_sipush (v := 10000) 42 dX8_terms_39 rfl (by decide) ?_
              refine V_icmp_le 48 45 dX8_terms_42 rfl rfl (fun c_42 => ?_) (fun c_42 => ?_)
              · skip
                refine V_aload_n 49 dX8_terms_48 rfl rfl ?_
                refine V_getR 52 8 17 fl_X8_134 dX8_terms_49 rfl rfl (by decide) (Or.inr ⟨_, rfl⟩) (by decide) (sr_17 hS) ?_
                refine V_iload_n 53 dX8_terms_52 rfl rfl ?_
                refine V_iload_n 54 dX8_terms_53 rfl rfl ?_
                refine V_iastN 55 (_) dX8_terms_54 rfl rfl (by decide) rfl (show _ < 6 by omega) (by decide) ?_
                refine V_aload_n 56 dX8_terms_55 rfl rfl ?_
                refine V_getR 59 8 18 fl_X8_137 dX8_terms_56 rfl rfl (by decide) (Or.inr ⟨_, rfl⟩) (by decide) (sr_18 hS) ?_
                refine V_iload_n 60 dX8_terms_59 rfl rfl ?_
                refine V_lload_n 61 dX8_terms_60 rfl rfl ?_
                refine V_lastN 62 (_) dX8_terms_61 rfl rfl (by decide) rfl (show _ < 6 by omega) (by decide) ?_
                refine V_aload_n 63 dX8_terms_62 rfl rfl ?_
                refine V_getR 66 8 19 fl_X8_140 dX8_terms_63 rfl rfl (by decide) (Or.inr ⟨_, rfl⟩) (by decide) (sr_19 hS) ?_
                refine V_iload_n 67 dX8_terms_66 rfl rfl ?_
                refine V_iload 69 dX8_terms_67 rfl rfl ?_
                refine V_iastN 70 (_) dX8_terms_69 rfl rfl (by decide) rfl (show _ < 6 by omega) (by decide) ?_
                refine V_iconst (v := 0) 71 dX8_terms_70 rfl (by decide) ?_
                refine V_iret dX8_terms_71 rfl rfl ⟨_, rfl, ?_⟩ (by first | exact Nat.le_refl _ | decide | omega) (by first | exact Nat.le_refl _ | decide | omega)
                exact ⟨rfl, rfl⟩
              · skip
                grind
theorem ct_X8_terms_bad {t d x : Int32} {m : Int64} (hbad : ¬ ((0 ≤ t ∧ t < 6) ∧ (0 ≤ d ∧ d ≤ 10000) ∧ (0 ≤ m ∧ m ≤ 1000000000000) ∧ (0 ≤ x ∧ x ≤ 10000))) : qM yX8_terms cX8_terms 6 ((some .int)) 1 20 0 0 [.inr (.inr (some (33, 0))), .inl t, .inl d, .inr (.inl m), .inl x] h (pI fun v h' => v = -2 ∧ h' = h) := by
  refine qM.of (plainFor_of_name (by decide)) (Nat.le_of_ble_eq_true rfl) ?_
  refine V_iload_n 1 dX8_terms_0 rfl rfl ?_
  refine V_cS1i 4 (ct_X8_isTenant _ _) cs_X8_7 dX8_terms_1 rfl ⟨Nat.le_of_ble_eq_true rfl, Nat.le_of_ble_eq_true rfl⟩ (Nat.le_of_ble_eq_true rfl) ⟨Nat.le_of_ble_eq_true rfl, Nat.le_of_ble_eq_true rfl⟩ (fun x h' hx hle => ?_)
  obtain ⟨rfl, rfl⟩ := hx
  refine V_if_eq 45 7 dX8_terms_4 rfl rfl (fun c_4 => ?_) (fun c_4 => ?_)
  · skip
    refine V_bipush (v := (-2)) 47 dX8_terms_45 rfl (by decide) ?_
    refine V_iret dX8_terms_47 rfl rfl ⟨_, rfl, ?_⟩ (by first | exact Nat.le_refl _ | decide | omega) (by first | exact Nat.le_refl _ | decide | omega)
    exact ⟨rfl, rfl⟩
  · skip
    refine V_iload_n 8 dX8_terms_7 rfl rfl ?_
    refine V_if_lt 45 11 dX8_terms_8 rfl rfl (fun c_8 => ?_) (fun c_8 => ?_)
    · skip
      refine V_bipush (v := (-2)) 47 dX8_terms_45 rfl (by decide) ?_
      refine V_iret dX8_terms_47 rfl rfl ⟨_, rfl, ?_⟩ (by first | exact Nat.le_refl _ | decide | omega) (by first | exact Nat.le_refl _ | decide | omega)
      exact ⟨rfl, rfl⟩
    · skip
      refine V_iload_n 12 dX8_terms_11 rfl rfl ?_
      refine V_sipush (v := 10000) 15 dX8_terms_12 rfl (by decide) ?_
      refine V_icmp_gt 45 18 dX8_terms_15 rfl rfl (fun c_15 => ?_) (fun c_15 => ?_)
      · skip
        refine V_bipush (v := (-2)) 47 dX8_terms_45 rfl (by decide) ?_
        refine V_iret dX8_terms_47 rfl rfl ⟨_, rfl, ?_⟩ (by first | exact Nat.le_refl _ | decide | omega) (by first | exact Nat.le_refl _ | decide | omega)
        exact ⟨rfl, rfl⟩
      · skip
        refine V_lload_n 19 dX8_terms_18 rfl rfl ?_
        refine V_lconst (v := 0) 20 dX8_terms_19 rfl (by decide) ?_
        refine V_lcmp 21 dX8_terms_20 rfl ?_
        refine V_if_lt 45 24 dX8_terms_21 rfl rfl (fun c_21 => ?_) (fun c_21 => ?_)
        · (rw [lg_lt] at c_21)
          refine V_bipush (v := (-2)) 47 dX8_terms_45 rfl (by decide) ?_
          refine V_iret dX8_terms_47 rfl rfl ⟨_, rfl, ?_⟩ (by first | exact Nat.le_refl _ | decide | omega) (by first | exact Nat.le_refl _ | decide | omega)
          exact ⟨rfl, rfl⟩
        · (rw [lg_lt] at c_21)
          refine V_lload_n 25 dX8_terms_24 rfl rfl ?_
          refine V_ldc2 (v := 1000000000000) 28 dX8_terms_25 rfl wc_X8_185 ?_
          refine V_lcmp 29 dX8_terms_28 rfl ?_
          refine V_if_gt 45 32 dX8_terms_29 rfl rfl (fun c_29 => ?_) (fun c_29 => ?_)
          · (rw [lg_gt] at c_29)
            refine V_bipush (v := (-2)) 47 dX8_terms_45 rfl (by decide) ?_
            refine V_iret dX8_terms_47 rfl rfl ⟨_, rfl, ?_⟩ (by first | exact Nat.le_refl _ | decide | omega) (by first | exact Nat.le_refl _ | decide | omega)
            exact ⟨rfl, rfl⟩
          · (rw [lg_gt] at c_29)
            refine V_iload 34 dX8_terms_32 rfl rfl ?_
            refine V_if_lt 45 37 dX8_terms_34 rfl rfl (fun c_34 => ?_) (fun c_34 => ?_)
            · skip
              refine V_bipush (v := (-2)) 47 dX8_terms_45 rfl (by decide) ?_
              refine V_iret dX8_terms_47 rfl rfl ⟨_, rfl, ?_⟩ (by first | exact Nat.le_refl _ | decide | omega) (by first | exact Nat.le_refl _ | decide | omega)
              exact ⟨rfl, rfl⟩
            · skip
              refine V_iload 39 dX8_terms_37 rfl rfl ?_
              refine V_sipush (v := 10000) 42 dX8_terms_39 rfl (by decide) ?_
              refine V_icmp_le 48 45 dX8_terms_42 rfl rfl (fun c_42 => ?_) (fun c_42 => ?_)
              · skip
                exfalso; grind
              · skip
                refine V_bipush (v := (-2)) 47 dX8_terms_45 rfl (by decide) ?_
                refine V_iret dX8_terms_47 rfl rfl ⟨_, rfl, ?_⟩ (by first | exact Nat.le_refl _ | decide | omega) (by first | exact Nat.le_refl _ | decide | omega)
                exact ⟨rfl, rfl⟩
def m_left (h : qH) (t k : Nat) : Int64 := if qg_i h 52 0 (40 * t + k) < qg_i h 53 0 t then 0 else qg_l h 51 0 (40 * t + k)
theorem ct_X8_leftOf {t k : Nat} (hS : SHR h) (ht : t < 6) (hk : k < 40) : qM yX8_leftOf cX8_leftOf 4 ((some .long)) 0 0 0 0 [.inr (.inr (some (33, 0))), .inl (nI t), .inl (nI k)] h (pL fun x h' => x = m_left h t k ∧ h' = h) := by
  have e4 : (40 : Int32) * nI t + nI k = nI (40 * t + k) := by rw [show (40 : Int32) = nI 40 from rfl, pk_mul, nI_add]
  refine qM.of (plainFor_of_name (by decide)) (Nat.le_of_ble_eq_true rfl) ?_
  refine V_bipush (v := 40) 2 dX8_leftOf_0 rfl (by decide) ?_
  refine V_iload_n 3 dX8_leftOf_2 rfl rfl ?_
  refine V_imul 4 dX8_leftOf_3 rfl ?_
  refine V_iload_n 5 dX8_leftOf_4 rfl rfl ?_
  refine V_iadd 6 dX8_leftOf_5 rfl ?_
  rw [e4]
  refine V_istore_n 7 dX8_leftOf_6 rfl (by decide) ?_
  refine V_aload_n 8 dX8_leftOf_7 rfl rfl ?_
  refine V_getR 11 8 22 fl_X8_149 dX8_leftOf_8 rfl rfl (by decide) (Or.inr ⟨_, rfl⟩) (by decide) (sr_22 hS) ?_
  refine V_iload_n 12 dX8_leftOf_11 rfl rfl ?_
  refine V_ialdN 13 (_) dX8_leftOf_12 rfl rfl (by decide) rfl (show _ < 240 by omega) (by decide) ?_
  refine V_aload_n 14 dX8_leftOf_13 rfl rfl ?_
  refine V_getR 17 8 23 fl_X8_49 dX8_leftOf_14 rfl rfl (by decide) (Or.inr ⟨_, rfl⟩) (by decide) (sr_23 hS) ?_
  refine V_iload_n 18 dX8_leftOf_17 rfl rfl ?_
  refine V_ialdN 19 (_) dX8_leftOf_18 rfl rfl (by decide) rfl (show _ < 6 by omega) (by decide) ?_
  refine V_icmp_ge 26 22 dX8_leftOf_19 rfl rfl (fun c_19 => ?_) (fun c_19 => ?_)
  · skip
    refine V_aload_n 27 dX8_leftOf_26 rfl rfl ?_
    refine V_getR 30 8 21 fl_X8_146 dX8_leftOf_27 rfl rfl (by decide) (Or.inr ⟨_, rfl⟩) (by decide) (sr_21 hS) ?_
    refine V_iload_n 31 dX8_leftOf_30 rfl rfl ?_
    refine V_laldN 32 (_) dX8_leftOf_31 rfl rfl (by decide) rfl (show _ < 240 by omega) (by decide) ?_
    refine V_lret dX8_leftOf_32 rfl ⟨_, rfl, ?_⟩ (by first | exact Nat.le_refl _ | decide | omega) (by first | exact Nat.le_refl _ | decide | omega)
    refine ⟨?_, rfl⟩
    unfold m_left
    grind
  · skip
    refine V_lconst (v := 0) 23 dX8_leftOf_22 rfl (by decide) ?_
    refine V_goto 32 dX8_leftOf_23 rfl ?_
    refine V_lret dX8_leftOf_32 rfl ⟨_, rfl, ?_⟩ (by first | exact Nat.le_refl _ | decide | omega) (by first | exact Nat.le_refl _ | decide | omega)
    refine ⟨?_, rfl⟩
    unfold m_left
    grind
theorem ct_X8_left_ok {t k nc : Nat} (hS : SHR h) (ht : t < 6) (hc : qg_i h 50 0 t = nI nc) (hnc : nc ≤ 40) (hk : k < nc) : qM yX8_left cX8_left 3 ((some .long)) 1 23 0 0 [.inr (.inr (some (33, 0))), .inl (nI t), .inl (nI k)] h (pL fun x h' => x = m_left h t k ∧ h' = h) := by
  refine qM.of (plainFor_of_name (by decide)) (Nat.le_of_ble_eq_true rfl) ?_
  refine V_iload_n 1 dX8_left_0 rfl rfl ?_
  refine V_cS1i 4 (ct_isTen_ok ht) cs_X8_7 dX8_left_1 rfl ⟨Nat.le_of_ble_eq_true rfl, Nat.le_of_ble_eq_true rfl⟩ (Nat.le_of_ble_eq_true rfl) ⟨Nat.le_of_ble_eq_true rfl, Nat.le_of_ble_eq_true rfl⟩ (fun x h' hx hle => ?_)
  obtain ⟨rfl, rfl⟩ := hx
  refine V_if_eq 30 7 dX8_left_4 rfl rfl (fun c_4 => ?_) (fun c_4 => ?_)
  · skip
    exact absurd c_4 (by decide)
  · skip
    refine V_iload_n 8 dX8_left_7 rfl rfl ?_
    refine V_if_lt 30 11 dX8_left_8 rfl rfl (fun c_8 => ?_) (fun c_8 => ?_)
    · skip
      exact absurd c_8 (nI_pos (by omega))
    · skip
      refine V_iload_n 12 dX8_left_11 rfl rfl ?_
      refine V_aload_n 13 dX8_left_12 rfl rfl ?_
      refine V_getR 16 8 20 fl_X8_143 dX8_left_13 rfl rfl (by decide) (Or.inr ⟨_, rfl⟩) (by decide) (sr_20 hS) ?_
      refine V_iload_n 17 dX8_left_16 rfl rfl ?_
      refine V_ialdV 18 (_) dX8_left_17 rfl rfl (by decide) rfl (show _ < 6 by omega) (by decide) hc ?_
      refine V_icmp_ge 30 21 dX8_left_18 rfl rfl (fun c_18 => ?_) (fun c_18 => ?_)
      · skip
        exact absurd c_18 (nI_ge hk (by omega))
      · skip
        refine V_aload_n 22 dX8_left_21 rfl rfl ?_
        refine V_iload_n 23 dX8_left_22 rfl rfl ?_
        refine V_iload_n 24 dX8_left_23 rfl rfl ?_
        refine V_cV2l 27 (ct_X8_leftOf hS ht (by omega)) cs_X8_187 rfl rfl (by decide) dX8_left_24 rfl ⟨Nat.le_of_ble_eq_true rfl, Nat.le_of_ble_eq_true rfl⟩ (Nat.le_of_ble_eq_true rfl) ⟨Nat.le_of_ble_eq_true rfl, Nat.le_of_ble_eq_true rfl⟩ (fun x h' hx hle => ?_)
        obtain ⟨rfl, rfl⟩ := hx
        refine V_goto 33 dX8_left_27 rfl ?_
        refine V_lret dX8_left_33 rfl ⟨_, rfl, ?_⟩ (by first | exact Nat.le_refl _ | decide | omega) (by first | exact Nat.le_refl _ | decide | omega)
        exact ⟨rfl, rfl⟩
theorem ct_X8_left_bad {t k : Int32} (hS : SHR h) (hbad : ¬ ((0 ≤ t ∧ t < 6) ∧ ∃ t' : Nat, t' < 6 ∧ t = nI t' ∧ (0 ≤ k ∧ k < qg_i h 50 0 t'))) : qM yX8_left cX8_left 3 ((some .long)) 1 23 0 0 [.inr (.inr (some (33, 0))), .inl t, .inl k] h (pL fun x h' => x = -2 ∧ h' = h) := by
  refine qM.of (plainFor_of_name (by decide)) (Nat.le_of_ble_eq_true rfl) ?_
  refine V_iload_n 1 dX8_left_0 rfl rfl ?_
  refine V_cS1i 4 (ct_X8_isTenant _ _) cs_X8_7 dX8_left_1 rfl ⟨Nat.le_of_ble_eq_true rfl, Nat.le_of_ble_eq_true rfl⟩ (Nat.le_of_ble_eq_true rfl) ⟨Nat.le_of_ble_eq_true rfl, Nat.le_of_ble_eq_true rfl⟩ (fun x h' hx hle => ?_)
  obtain ⟨rfl, rfl⟩ := hx
  refine V_if_eq 30 7 dX8_left_4 rfl rfl (fun c_4 => ?_) (fun c_4 => ?_)
  · skip
    refine V_ldc2 (v := -2) 33 dX8_left_30 rfl wc_X8_75 ?_
    refine V_lret dX8_left_33 rfl ⟨_, rfl, ?_⟩ (by first | exact Nat.le_refl _ | decide | omega) (by first | exact Nat.le_refl _ | decide | omega)
    exact ⟨rfl, rfl⟩
  · skip
    refine V_iload_n 8 dX8_left_7 rfl rfl ?_
    refine V_if_lt 30 11 dX8_left_8 rfl rfl (fun c_8 => ?_) (fun c_8 => ?_)
    · skip
      refine V_ldc2 (v := -2) 33 dX8_left_30 rfl wc_X8_75 ?_
      refine V_lret dX8_left_33 rfl ⟨_, rfl, ?_⟩ (by first | exact Nat.le_refl _ | decide | omega) (by first | exact Nat.le_refl _ | decide | omega)
      exact ⟨rfl, rfl⟩
    · skip
      obtain ⟨b, hb, rfl⟩ := res_of (n := 6) (by decide) c_4
      refine V_iload_n 12 dX8_left_11 rfl rfl ?_
      refine V_aload_n 13 dX8_left_12 rfl rfl ?_
      refine V_getR 16 8 20 fl_X8_143 dX8_left_13 rfl rfl (by decide) (Or.inr ⟨_, rfl⟩) (by decide) (sr_20 hS) ?_
      refine V_iload_n 17 dX8_left_16 rfl rfl ?_
      refine V_ialdN 18 (_) dX8_left_17 rfl rfl (by decide) rfl (show _ < 6 by omega) (by decide) ?_
      refine V_icmp_ge 30 21 dX8_left_18 rfl rfl (fun c_18 => ?_) (fun c_18 => ?_)
      · skip
        refine V_ldc2 (v := -2) 33 dX8_left_30 rfl wc_X8_75 ?_
        refine V_lret dX8_left_33 rfl ⟨_, rfl, ?_⟩ (by first | exact Nat.le_refl _ | decide | omega) (by first | exact Nat.le_refl _ | decide | omega)
        exact ⟨rfl, rfl⟩
      · skip
        exact absurd ⟨⟨nI_pos' (by omega), nI_lt (b := 6) hb (by omega)⟩, b, hb, rfl, by grind⟩ hbad
theorem ct_X8_closed_ok {t : Nat} (hS : SHR h) (ht : t < 6) : qM yX8_closed cX8_closed 2 ((some .int)) 1 20 0 0 [.inr (.inr (some (33, 0))), .inl (nI t)] h (pI fun x h' => x = qg_i h 53 0 t ∧ h' = h) := by
  refine qM.of (plainFor_of_name (by decide)) (Nat.le_of_ble_eq_true rfl) ?_
  refine V_iload_n 1 dX8_closed_0 rfl rfl ?_
  refine V_cS1i 4 (ct_isTen_ok ht) cs_X8_7 dX8_closed_1 rfl ⟨Nat.le_of_ble_eq_true rfl, Nat.le_of_ble_eq_true rfl⟩ (Nat.le_of_ble_eq_true rfl) ⟨Nat.le_of_ble_eq_true rfl, Nat.le_of_ble_eq_true rfl⟩ (fun x h' hx hle => ?_)
  obtain ⟨rfl, rfl⟩ := hx
  refine V_if_eq 16 7 dX8_closed_4 rfl rfl (fun c_4 => ?_) (fun c_4 => ?_)
  · skip
    exact absurd c_4 (by decide)
  · skip
    refine V_aload_n 8 dX8_closed_7 rfl rfl ?_
    refine V_getR 11 8 23 fl_X8_49 dX8_closed_8 rfl rfl (by decide) (Or.inr ⟨_, rfl⟩) (by decide) (sr_23 hS) ?_
    refine V_iload_n 12 dX8_closed_11 rfl rfl ?_
    refine V_ialdN 13 (_) dX8_closed_12 rfl rfl (by decide) rfl (show _ < 6 by omega) (by decide) ?_
    refine V_goto 18 dX8_closed_13 rfl ?_
    refine V_iret dX8_closed_18 rfl rfl ⟨_, rfl, ?_⟩ (by first | exact Nat.le_refl _ | decide | omega) (by first | exact Nat.le_refl _ | decide | omega)
    exact ⟨rfl, rfl⟩
theorem ct_X8_closed_bad {t : Int32} (hbad : ¬ (0 ≤ t ∧ t < 6)) : qM yX8_closed cX8_closed 2 ((some .int)) 1 20 0 0 [.inr (.inr (some (33, 0))), .inl t] h (pI fun x h' => x = -2 ∧ h' = h) := by
  refine qM.of (plainFor_of_name (by decide)) (Nat.le_of_ble_eq_true rfl) ?_
  refine V_iload_n 1 dX8_closed_0 rfl rfl ?_
  refine V_cS1i 4 (ct_X8_isTenant _ _) cs_X8_7 dX8_closed_1 rfl ⟨Nat.le_of_ble_eq_true rfl, Nat.le_of_ble_eq_true rfl⟩ (Nat.le_of_ble_eq_true rfl) ⟨Nat.le_of_ble_eq_true rfl, Nat.le_of_ble_eq_true rfl⟩ (fun x h' hx hle => ?_)
  obtain ⟨rfl, rfl⟩ := hx
  refine V_if_eq 16 7 dX8_closed_4 rfl rfl (fun c_4 => ?_) (fun c_4 => ?_)
  · skip
    refine V_bipush (v := (-2)) 18 dX8_closed_16 rfl (by decide) ?_
    refine V_iret dX8_closed_18 rfl rfl ⟨_, rfl, ?_⟩ (by first | exact Nat.le_refl _ | decide | omega) (by first | exact Nat.le_refl _ | decide | omega)
    exact ⟨rfl, rfl⟩
  · skip
    exfalso; grind
def m_some (h : qH) (t k : Nat) : Int32 := if 0 < m_left h t k then 1 else 0
theorem lp_X8_credit {t nc : Nat} {m : Int64} {p : Int32} (hS : SHR h) (ht : t < 6) (hc : qg_i h 50 0 t = nI nc) (hnc : nc ≤ 40) {n0 : Nat → Nat} {Post : Option qV → qH → Prop} 
    (K : Vw yX8_credit cX8_credit 7 ((some .int)) (qrm 1 23 0 0) 0 0 n0 Post 92 [(0, .inr (.inr (some (33, 0)))), (1, .inl (nI t)), (2, .inr (.inl m)), (4, .inl p), (5, .inl (sm_i (m_some h t) nc))] [] h 0 0) :
    ∀ (n i : Nat), i + n = nc → Vw yX8_credit cX8_credit 7 ((some .int)) (qrm 1 23 0 0) 0 0 n0 Post 53 [(0, .inr (.inr (some (33, 0)))), (1, .inl (nI t)), (2, .inr (.inl m)), (4, .inl p), (5, .inl (sm_i (m_some h t) i)), (6, .inl (nI i))] [] h 0 0 := by
  intro n
  induction n with
  | zero =>
    intro i hi
    have hi : i = nc := by omega
    subst hi
    refine V_iload 55 dX8_credit_53 rfl rfl ?_
    refine V_aload_n 56 dX8_credit_55 rfl rfl ?_
    refine V_getR 59 8 20 fl_X8_143 dX8_credit_56 rfl rfl (by decide) (Or.inr ⟨_, rfl⟩) (by decide) (sr_20 hS) ?_
    refine V_iload_n 60 dX8_credit_59 rfl rfl ?_
    refine V_ialdV 61 (_) dX8_credit_60 rfl rfl (by decide) rfl (show _ < 6 by omega) (by decide) hc ?_
    refine V_icmp_ge 92 64 dX8_credit_61 rfl rfl (fun c_61 => ?_) (fun c_61 => ?_)
    · skip
      exact V_at K ⟨rfl, rfl, rfl, rfl, rfl, trivial⟩
    · skip
      exact absurd (nI_le (Nat.le_refl _) (by omega)) c_61
  | succ n ih =>
    intro i hi
    refine V_iload 55 dX8_credit_53 rfl rfl ?_
    refine V_aload_n 56 dX8_credit_55 rfl rfl ?_
    refine V_getR 59 8 20 fl_X8_143 dX8_credit_56 rfl rfl (by decide) (Or.inr ⟨_, rfl⟩) (by decide) (sr_20 hS) ?_
    refine V_iload_n 60 dX8_credit_59 rfl rfl ?_
    refine V_ialdV 61 (_) dX8_credit_60 rfl rfl (by decide) rfl (show _ < 6 by omega) (by decide) hc ?_
    refine V_icmp_ge 92 64 dX8_credit_61 rfl rfl (fun c_61 => ?_) (fun c_61 => ?_)
    · skip
      exact absurd c_61 (nI_ge (by omega) (by omega))
    · skip
      refine V_iload 66 dX8_credit_64 rfl rfl ?_
      refine V_aload_n 67 dX8_credit_66 rfl rfl ?_
      refine V_iload_n 68 dX8_credit_67 rfl rfl ?_
      refine V_iload 70 dX8_credit_68 rfl rfl ?_
      refine V_cV2l 73 (ct_X8_leftOf hS ht (by omega)) cs_X8_187 rfl rfl (by decide) dX8_credit_70 rfl ⟨Nat.le_of_ble_eq_true rfl, Nat.le_of_ble_eq_true rfl⟩ (Nat.le_of_ble_eq_true rfl) ⟨Nat.le_of_ble_eq_true rfl, Nat.le_of_ble_eq_true rfl⟩ (fun x h' hx hle => ?_)
      obtain ⟨rfl, rfl⟩ := hx
      refine V_lconst (v := 0) 74 dX8_credit_73 rfl (by decide) ?_
      refine V_lcmp 75 dX8_credit_74 rfl ?_
      refine V_if_le 82 78 dX8_credit_75 rfl rfl (fun c_75 => ?_) (fun c_75 => ?_)
      · (rw [lg_le] at c_75)
        refine V_iconst (v := 0) 83 dX8_credit_82 rfl (by decide) ?_
        refine V_iadd 84 dX8_credit_83 rfl ?_
        refine V_istore 86 dX8_credit_84 rfl (by decide) ?_
        refine V_iincN 89 dX8_credit_86 rfl rfl (by decide) ?_
        refine V_goto 53 dX8_credit_89 rfl ?_
        refine V_at (ih (i + 1) (by omega)) ⟨rfl, rfl, rfl, rfl, ?_, rfl, trivial⟩
        show some _ = some _
        simp only [sm_i, m_some]
        grind
      · (rw [lg_le] at c_75)
        refine V_iconst (v := 1) 79 dX8_credit_78 rfl (by decide) ?_
        refine V_goto 83 dX8_credit_79 rfl ?_
        refine V_iadd 84 dX8_credit_83 rfl ?_
        refine V_istore 86 dX8_credit_84 rfl (by decide) ?_
        refine V_iincN 89 dX8_credit_86 rfl rfl (by decide) ?_
        refine V_goto 53 dX8_credit_89 rfl ?_
        refine V_at (ih (i + 1) (by omega)) ⟨rfl, rfl, rfl, rfl, ?_, rfl, trivial⟩
        show some _ = some _
        simp only [sm_i, m_some]
        grind
theorem ct_X8_credit_ok {t nc : Nat} {m : Int64} {p : Int32} (hS : SHR h) (ht : t < 6) (hc : qg_i h 50 0 t = nI nc) (hnc : nc < 40) (hm : 1 ≤ m ∧ m ≤ 1000000000000) (hp : 0 ≤ p ∧ p < 100) (hpc : qg_i h 53 0 t ≤ p) (hs : sm_i (m_some h t) nc ≠ 10) : qM yX8_credit cX8_credit 7 ((some .int)) 1 23 0 0 [.inr (.inr (some (33, 0))), .inl (nI t), .inr (.inl m), .inl p] h (pI fun x h' => x = nI nc ∧ h' = qs_i (qs_i (qs_l h 51 0 (40 * t + nc) m) 52 0 (40 * t + nc) p) 50 0 t (nI (nc + 1))) := by
  have e4 : (40 : Int32) * nI t + nI nc = nI (40 * t + nc) := by rw [show (40 : Int32) = nI 40 from rfl, pk_mul, nI_add]
  refine qM.of (plainFor_of_name (by decide)) (Nat.le_of_ble_eq_true rfl) ?_
  refine V_iload_n 1 dX8_credit_0 rfl rfl ?_
  refine V_cS1i 4 (ct_isTen_ok ht) cs_X8_7 dX8_credit_1 rfl ⟨Nat.le_of_ble_eq_true rfl, Nat.le_of_ble_eq_true rfl⟩ (Nat.le_of_ble_eq_true rfl) ⟨Nat.le_of_ble_eq_true rfl, Nat.le_of_ble_eq_true rfl⟩ (fun x h' hx hle => ?_)
  obtain ⟨rfl, rfl⟩ := hx
  refine V_if_eq 44 7 dX8_credit_4 rfl rfl (fun c_4 => ?_) (fun c_4 => ?_)
  · skip
    exact absurd c_4 (by decide)
  · skip
    refine V_lload_n 8 dX8_credit_7 rfl rfl ?_
    refine V_lconst (v := 1) 9 dX8_credit_8 rfl (by decide) ?_
    refine V_lcmp 10 dX8_credit_9 rfl ?_
    refine V_if_lt 44 13 dX8_credit_10 rfl rfl (fun c_10 => ?_) (fun c_10 => ?_)
    · (rw [lg_lt] at c_10)
      grind
    · (rw [lg_lt] at c_10)
      refine V_lload_n 14 dX8_credit_13 rfl rfl ?_
      refine V_ldc2 (v := 1000000000000) 17 dX8_credit_14 rfl wc_X8_185 ?_
      refine V_lcmp 18 dX8_credit_17 rfl ?_
      refine V_if_gt 44 21 dX8_credit_18 rfl rfl (fun c_18 => ?_) (fun c_18 => ?_)
      · (rw [lg_gt] at c_18)
        grind
      · (rw [lg_gt] at c_18)
        refine V_iload 23 dX8_credit_21 rfl rfl ?_
        refine V_if_lt 44 26 dX8_credit_23 rfl rfl (fun c_23 => ?_) (fun c_23 => ?_)
        · skip
          grind
        · skip
          refine V_iload 28 dX8_credit_26 rfl rfl ?_
          refine V_bipush (v := 100) 30 dX8_credit_28 rfl (by decide) ?_
          refine V_icmp_ge 44 33 dX8_credit_30 rfl rfl (fun c_30 => ?_) (fun c_30 => ?_)
          · skip
            grind
          · skip
            refine V_iload 35 dX8_credit_33 rfl rfl ?_
            refine V_aload_n 36 dX8_credit_35 rfl rfl ?_
            refine V_getR 39 8 23 fl_X8_49 dX8_credit_36 rfl rfl (by decide) (Or.inr ⟨_, rfl⟩) (by decide) (sr_23 hS) ?_
            refine V_iload_n 40 dX8_credit_39 rfl rfl ?_
            refine V_ialdN 41 (_) dX8_credit_40 rfl rfl (by decide) rfl (show _ < 6 by omega) (by decide) ?_
            refine V_icmp_ge 47 44 dX8_credit_41 rfl rfl (fun c_41 => ?_) (fun c_41 => ?_)
            · skip
              refine V_iconst (v := 0) 48 dX8_credit_47 rfl (by decide) ?_
              refine V_istore 50 dX8_credit_48 rfl (by decide) ?_
              refine V_iconst (v := 0) 51 dX8_credit_50 rfl (by decide) ?_
              refine V_istore 53 dX8_credit_51 rfl (by decide) ?_
              refine V_at (lp_X8_credit (m := m) (p := p) hS ht hc (by omega) ?_ nc 0 (by omega)) ⟨rfl, rfl, rfl, rfl, rfl, rfl, trivial⟩
              refine V_iload 94 dX8_credit_92 rfl rfl ?_
              refine V_bipush (v := 10) 96 dX8_credit_94 rfl (by decide) ?_
              refine V_icmp_eq 110 99 dX8_credit_96 rfl rfl (fun c_96 => ?_) (fun c_96 => ?_)
              · skip
                exact absurd c_96 hs
              · skip
                refine V_aload_n 100 dX8_credit_99 rfl rfl ?_
                refine V_getR 103 8 20 fl_X8_143 dX8_credit_100 rfl rfl (by decide) (Or.inr ⟨_, rfl⟩) (by decide) (sr_20 hS) ?_
                refine V_iload_n 104 dX8_credit_103 rfl rfl ?_
                refine V_ialdV 105 (_) dX8_credit_104 rfl rfl (by decide) rfl (show _ < 6 by omega) (by decide) hc ?_
                refine V_bipush (v := 40) 107 dX8_credit_105 rfl (by decide) ?_
                refine V_icmp_ne 113 110 dX8_credit_107 rfl rfl (fun c_107 => ?_) (fun c_107 => ?_)
                · skip
                  refine V_aload_n 114 dX8_credit_113 rfl rfl ?_
                  refine V_getR 117 8 21 fl_X8_146 dX8_credit_114 rfl rfl (by decide) (Or.inr ⟨_, rfl⟩) (by decide) (sr_21 hS) ?_
                  refine V_bipush (v := 40) 119 dX8_credit_117 rfl (by decide) ?_
                  refine V_iload_n 120 dX8_credit_119 rfl rfl ?_
                  refine V_imul 121 dX8_credit_120 rfl ?_
                  refine V_aload_n 122 dX8_credit_121 rfl rfl ?_
                  refine V_getR 125 8 20 fl_X8_143 dX8_credit_122 rfl rfl (by decide) (Or.inr ⟨_, rfl⟩) (by decide) (sr_20 hS) ?_
                  refine V_iload_n 126 dX8_credit_125 rfl rfl ?_
                  refine V_ialdV 127 (_) dX8_credit_126 rfl rfl (by decide) rfl (show _ < 6 by omega) (by decide) hc ?_
                  refine V_iadd 128 dX8_credit_127 rfl ?_
                  refine V_lload_n 129 dX8_credit_128 rfl rfl ?_
                  refine V_lastN 130 (40 * t + nc) dX8_credit_129 rfl rfl (by decide) e4 (show _ < 240 by omega) (by decide) ?_
                  refine V_aload_n 131 dX8_credit_130 rfl rfl ?_
                  refine V_getR 134 8 22 fl_X8_149 dX8_credit_131 rfl rfl (by decide) (Or.inr ⟨_, rfl⟩) (by decide) (sr_22 hS) ?_
                  refine V_bipush (v := 40) 136 dX8_credit_134 rfl (by decide) ?_
                  refine V_iload_n 137 dX8_credit_136 rfl rfl ?_
                  refine V_imul 138 dX8_credit_137 rfl ?_
                  refine V_aload_n 139 dX8_credit_138 rfl rfl ?_
                  refine V_getR 142 8 20 fl_X8_143 dX8_credit_139 rfl rfl (by decide) (Or.inr ⟨_, rfl⟩) (by decide) (sr_20 hS) ?_
                  refine V_iload_n 143 dX8_credit_142 rfl rfl ?_
                  refine V_ialdV 144 (_) dX8_credit_143 rfl rfl (by decide) rfl (show _ < 6 by omega) (by decide) hc ?_
                  refine V_iadd 145 dX8_credit_144 rfl ?_
                  refine V_iload 147 dX8_credit_145 rfl rfl ?_
                  refine V_iastN 148 (40 * t + nc) dX8_credit_147 rfl rfl (by decide) e4 (show _ < 240 by omega) (by decide) ?_
                  refine V_aload_n 149 dX8_credit_148 rfl rfl ?_
                  refine V_getR 152 8 20 fl_X8_143 dX8_credit_149 rfl rfl (by decide) (Or.inr ⟨_, rfl⟩) (by decide) (sr_20 hS) ?_
                  refine V_iload_n 153 dX8_credit_152 rfl rfl ?_
                  refine V_dup2 154 dX8_credit_153 rfl ?_
                  refine V_ialdV 155 (_) dX8_credit_154 rfl rfl (by decide) rfl (show _ < 6 by omega) (by decide) hc ?_
                  refine V_iconst (v := 1) 156 dX8_credit_155 rfl (by decide) ?_
                  refine V_iadd 157 dX8_credit_156 rfl ?_
                  rw [nI_1]
                  refine V_iastN 158 (_) dX8_credit_157 rfl rfl (by decide) rfl (show _ < 6 by omega) (by decide) ?_
                  refine V_aload_n 159 dX8_credit_158 rfl rfl ?_
                  refine V_getR 162 8 20 fl_X8_143 dX8_credit_159 rfl rfl (by decide) (Or.inr ⟨_, rfl⟩) (by decide) (sr_20 hS) ?_
                  refine V_iload_n 163 dX8_credit_162 rfl rfl ?_
                  refine V_ialdV 164 (_) dX8_credit_163 rfl rfl (by decide) rfl (show _ < 6 by omega) (by decide) (show _ = nI (nc + 1) by simp [qii]) ?_
                  refine V_iconst (v := 1) 165 dX8_credit_164 rfl (by decide) ?_
                  refine V_isub 166 dX8_credit_165 rfl ?_
                  rw [nI_pred]
                  refine V_iret dX8_credit_166 rfl rfl ⟨_, rfl, ?_⟩ (by first | exact Nat.le_refl _ | decide | omega) (by first | exact Nat.le_refl _ | decide | omega)
                  exact ⟨rfl, rfl⟩
                · skip
                  exact absurd (show nI nc = nI 40 from c_107) (fun q => by have := (nI_eq (by omega) (by omega)).mp q; omega)
            · skip
              grind
theorem ct_X8_credit_full {t nc : Nat} {m : Int64} {p : Int32} (hS : SHR h) (ht : t < 6) (hc : qg_i h 50 0 t = nI nc) (hnc : nc ≤ 40) (hm : 1 ≤ m ∧ m ≤ 1000000000000) (hp : 0 ≤ p ∧ p < 100) (hpc : qg_i h 53 0 t ≤ p) (hs : sm_i (m_some h t) nc = 10 ∨ nc = 40) : qM yX8_credit cX8_credit 7 ((some .int)) 1 23 0 0 [.inr (.inr (some (33, 0))), .inl (nI t), .inr (.inl m), .inl p] h (pI fun x h' => x = -3 ∧ h' = h) := by
  refine qM.of (plainFor_of_name (by decide)) (Nat.le_of_ble_eq_true rfl) ?_
  refine V_iload_n 1 dX8_credit_0 rfl rfl ?_
  refine V_cS1i 4 (ct_isTen_ok ht) cs_X8_7 dX8_credit_1 rfl ⟨Nat.le_of_ble_eq_true rfl, Nat.le_of_ble_eq_true rfl⟩ (Nat.le_of_ble_eq_true rfl) ⟨Nat.le_of_ble_eq_true rfl, Nat.le_of_ble_eq_true rfl⟩ (fun x h' hx hle => ?_)
  obtain ⟨rfl, rfl⟩ := hx
  refine V_if_eq 44 7 dX8_credit_4 rfl rfl (fun c_4 => ?_) (fun c_4 => ?_)
  · skip
    exact absurd c_4 (by decide)
  · skip
    refine V_lload_n 8 dX8_credit_7 rfl rfl ?_
    refine V_lconst (v := 1) 9 dX8_credit_8 rfl (by decide) ?_
    refine V_lcmp 10 dX8_credit_9 rfl ?_
    refine V_if_lt 44 13 dX8_credit_10 rfl rfl (fun c_10 => ?_) (fun c_10 => ?_)
    · (rw [lg_lt] at c_10)
      grind
    · (rw [lg_lt] at c_10)
      refine V_lload_n 14 dX8_credit_13 rfl rfl ?_
      refine V_ldc2 (v := 1000000000000) 17 dX8_credit_14 rfl wc_X8_185 ?_
      refine V_lcmp 18 dX8_credit_17 rfl ?_
      refine V_if_gt 44 21 dX8_credit_18 rfl rfl (fun c_18 => ?_) (fun c_18 => ?_)
      · (rw [lg_gt] at c_18)
        grind
      · (rw [lg_gt] at c_18)
        refine V_iload 23 dX8_credit_21 rfl rfl ?_
        refine V_if_lt 44 26 dX8_credit_23 rfl rfl (fun c_23 => ?_) (fun c_23 => ?_)
        · skip
          grind
        · skip
          refine V_iload 28 dX8_credit_26 rfl rfl ?_
          refine V_bipush (v := 100) 30 dX8_credit_28 rfl (by decide) ?_
          refine V_icmp_ge 44 33 dX8_credit_30 rfl rfl (fun c_30 => ?_) (fun c_30 => ?_)
          · skip
            grind
          · skip
            refine V_iload 35 dX8_credit_33 rfl rfl ?_
            refine V_aload_n 36 dX8_credit_35 rfl rfl ?_
            refine V_getR 39 8 23 fl_X8_49 dX8_credit_36 rfl rfl (by decide) (Or.inr ⟨_, rfl⟩) (by decide) (sr_23 hS) ?_
            refine V_iload_n 40 dX8_credit_39 rfl rfl ?_
            refine V_ialdN 41 (_) dX8_credit_40 rfl rfl (by decide) rfl (show _ < 6 by omega) (by decide) ?_
            refine V_icmp_ge 47 44 dX8_credit_41 rfl rfl (fun c_41 => ?_) (fun c_41 => ?_)
            · skip
              refine V_iconst (v := 0) 48 dX8_credit_47 rfl (by decide) ?_
              refine V_istore 50 dX8_credit_48 rfl (by decide) ?_
              refine V_iconst (v := 0) 51 dX8_credit_50 rfl (by decide) ?_
              refine V_istore 53 dX8_credit_51 rfl (by decide) ?_
              refine V_at (lp_X8_credit (m := m) (p := p) hS ht hc (by omega) ?_ nc 0 (by omega)) ⟨rfl, rfl, rfl, rfl, rfl, rfl, trivial⟩
              refine V_iload 94 dX8_credit_92 rfl rfl ?_
              refine V_bipush (v := 10) 96 dX8_credit_94 rfl (by decide) ?_
              refine V_icmp_eq 110 99 dX8_credit_96 rfl rfl (fun c_96 => ?_) (fun c_96 => ?_)
              · skip
                refine V_bipush (v := (-3)) 112 dX8_credit_110 rfl (by decide) ?_
                refine V_iret dX8_credit_112 rfl rfl ⟨_, rfl, ?_⟩ (by first | exact Nat.le_refl _ | decide | omega) (by first | exact Nat.le_refl _ | decide | omega)
                exact ⟨rfl, rfl⟩
              · skip
                refine V_aload_n 100 dX8_credit_99 rfl rfl ?_
                refine V_getR 103 8 20 fl_X8_143 dX8_credit_100 rfl rfl (by decide) (Or.inr ⟨_, rfl⟩) (by decide) (sr_20 hS) ?_
                refine V_iload_n 104 dX8_credit_103 rfl rfl ?_
                refine V_ialdV 105 (_) dX8_credit_104 rfl rfl (by decide) rfl (show _ < 6 by omega) (by decide) hc ?_
                refine V_bipush (v := 40) 107 dX8_credit_105 rfl (by decide) ?_
                refine V_icmp_ne 113 110 dX8_credit_107 rfl rfl (fun c_107 => ?_) (fun c_107 => ?_)
                · skip
                  exact absurd (by rcases hs with q | q; exact absurd q c_96; rw [q]; rfl) c_107
                · skip
                  refine V_bipush (v := (-3)) 112 dX8_credit_110 rfl (by decide) ?_
                  refine V_iret dX8_credit_112 rfl rfl ⟨_, rfl, ?_⟩ (by first | exact Nat.le_refl _ | decide | omega) (by first | exact Nat.le_refl _ | decide | omega)
                  exact ⟨rfl, rfl⟩
            · skip
              grind
theorem ct_X8_credit_bad {t p : Int32} {m : Int64} (hS : SHR h) (hbad : ¬ ((0 ≤ t ∧ t < 6) ∧ (1 ≤ m ∧ m ≤ 1000000000000) ∧ (0 ≤ p ∧ p < 100) ∧ ∃ t' : Nat, t' < 6 ∧ t = nI t' ∧ qg_i h 53 0 t' ≤ p)) : qM yX8_credit cX8_credit 7 ((some .int)) 1 23 0 0 [.inr (.inr (some (33, 0))), .inl t, .inr (.inl m), .inl p] h (pI fun x h' => x = -2 ∧ h' = h) := by
  refine qM.of (plainFor_of_name (by decide)) (Nat.le_of_ble_eq_true rfl) ?_
  refine V_iload_n 1 dX8_credit_0 rfl rfl ?_
  refine V_cS1i 4 (ct_X8_isTenant _ _) cs_X8_7 dX8_credit_1 rfl ⟨Nat.le_of_ble_eq_true rfl, Nat.le_of_ble_eq_true rfl⟩ (Nat.le_of_ble_eq_true rfl) ⟨Nat.le_of_ble_eq_true rfl, Nat.le_of_ble_eq_true rfl⟩ (fun x h' hx hle => ?_)
  obtain ⟨rfl, rfl⟩ := hx
  refine V_if_eq 44 7 dX8_credit_4 rfl rfl (fun c_4 => ?_) (fun c_4 => ?_)
  · skip
    refine V_bipush (v := (-2)) 46 dX8_credit_44 rfl (by decide) ?_
    refine V_iret dX8_credit_46 rfl rfl ⟨_, rfl, ?_⟩ (by first | exact Nat.le_refl _ | decide | omega) (by first | exact Nat.le_refl _ | decide | omega)
    exact ⟨rfl, rfl⟩
  · skip
    refine V_lload_n 8 dX8_credit_7 rfl rfl ?_
    refine V_lconst (v := 1) 9 dX8_credit_8 rfl (by decide) ?_
    refine V_lcmp 10 dX8_credit_9 rfl ?_
    refine V_if_lt 44 13 dX8_credit_10 rfl rfl (fun c_10 => ?_) (fun c_10 => ?_)
    · (rw [lg_lt] at c_10)
      refine V_bipush (v := (-2)) 46 dX8_credit_44 rfl (by decide) ?_
      refine V_iret dX8_credit_46 rfl rfl ⟨_, rfl, ?_⟩ (by first | exact Nat.le_refl _ | decide | omega) (by first | exact Nat.le_refl _ | decide | omega)
      exact ⟨rfl, rfl⟩
    · (rw [lg_lt] at c_10)
      refine V_lload_n 14 dX8_credit_13 rfl rfl ?_
      refine V_ldc2 (v := 1000000000000) 17 dX8_credit_14 rfl wc_X8_185 ?_
      refine V_lcmp 18 dX8_credit_17 rfl ?_
      refine V_if_gt 44 21 dX8_credit_18 rfl rfl (fun c_18 => ?_) (fun c_18 => ?_)
      · (rw [lg_gt] at c_18)
        refine V_bipush (v := (-2)) 46 dX8_credit_44 rfl (by decide) ?_
        refine V_iret dX8_credit_46 rfl rfl ⟨_, rfl, ?_⟩ (by first | exact Nat.le_refl _ | decide | omega) (by first | exact Nat.le_refl _ | decide | omega)
        exact ⟨rfl, rfl⟩
      · (rw [lg_gt] at c_18)
        refine V_iload 23 dX8_credit_21 rfl rfl ?_
        refine V_if_lt 44 26 dX8_credit_23 rfl rfl (fun c_23 => ?_) (fun c_23 => ?_)
        · skip
          refine V_bipush (v := (-2)) 46 dX8_credit_44 rfl (by decide) ?_
          refine V_iret dX8_credit_46 rfl rfl ⟨_, rfl, ?_⟩ (by first | exact Nat.le_refl _ | decide | omega) (by first | exact Nat.le_refl _ | decide | omega)
          exact ⟨rfl, rfl⟩
        · skip
          refine V_iload 28 dX8_credit_26 rfl rfl ?_
          refine V_bipush (v := 100) 30 dX8_credit_28 rfl (by decide) ?_
          refine V_icmp_ge 44 33 dX8_credit_30 rfl rfl (fun c_30 => ?_) (fun c_30 => ?_)
          · skip
            refine V_bipush (v := (-2)) 46 dX8_credit_44 rfl (by decide) ?_
            refine V_iret dX8_credit_46 rfl rfl ⟨_, rfl, ?_⟩ (by first | exact Nat.le_refl _ | decide | omega) (by first | exact Nat.le_refl _ | decide | omega)
            exact ⟨rfl, rfl⟩
          · skip
            obtain ⟨b, hb, rfl⟩ := res_of (n := 6) (by decide) c_4
            refine V_iload 35 dX8_credit_33 rfl rfl ?_
            refine V_aload_n 36 dX8_credit_35 rfl rfl ?_
            refine V_getR 39 8 23 fl_X8_49 dX8_credit_36 rfl rfl (by decide) (Or.inr ⟨_, rfl⟩) (by decide) (sr_23 hS) ?_
            refine V_iload_n 40 dX8_credit_39 rfl rfl ?_
            refine V_ialdN 41 (_) dX8_credit_40 rfl rfl (by decide) rfl (show _ < 6 by omega) (by decide) ?_
            refine V_icmp_ge 47 44 dX8_credit_41 rfl rfl (fun c_41 => ?_) (fun c_41 => ?_)
            · skip
              exact absurd ⟨⟨nI_pos' (by omega), nI_lt (b := 6) hb (by omega)⟩, by grind, by grind, b, hb, rfl, by grind⟩ hbad
            · skip
              refine V_bipush (v := (-2)) 46 dX8_credit_44 rfl (by decide) ?_
              refine V_iret dX8_credit_46 rfl rfl ⟨_, rfl, ?_⟩ (by first | exact Nat.le_refl _ | decide | omega) (by first | exact Nat.le_refl _ | decide | omega)
              exact ⟨rfl, rfl⟩
end RI
end
section
/-! The reference: cost, quantities, keys -/
section RJ
variable {h : qH}
def cst1 (md sz n pr fe un sum : Int64) : Int64 := if md = 1 then n * pr + fe else sum + ((if md = 2 then (un + sz - 1) / sz else un) * pr + fe)
/-- the cost by tiers: k + 1 of them, m still to come, the j-th now -/
def cst (md sz : Int64) (k : Nat) (la pr fe : Nat → Int64) (n : Int64) : Nat → Nat → Int64 → Int64 → Int64
  | 0, _, sum, _ => sum
  | m + 1, j, sum, be => if be < n then cst md sz k la pr fe n m (j + 1) (cst1 md sz n (pr j) (fe j) ((if j = k then n else m_min n (la j)) - be) sum) (if j = k then n else m_min n (la j)) else sum
def m_cost (h : qH) (p k : Nat) (n : Int64) : Int64 := cst (qg_l h 46 0 p) (qg_l h 46 0 (p + 1)) k (fun j => qg_l h 46 0 (p + 3 + 3 * j)) (fun j => qg_l h 46 0 (p + 4 + 3 * j)) (fun j => qg_l h 46 0 (p + 5 + 3 * j)) n (k + 1) 0 0 0
theorem lp_X8_costOf {p k : Nat} {n : Int64} (hS : SHR h) (hp : p + 18 ≤ 4752) (hk : k < 5) (hz : ¬ qg_l h 46 0 (p + 1) = 0) {n0 : Nat → Nat} {Post : Option qV → qH → Prop} :
    ∀ (m j : Nat), j + m = k + 1 → ∀ sum be, Post (some (.inr (.inl (cst (qg_l h 46 0 p) (qg_l h 46 0 (p + 1)) k (fun j => qg_l h 46 0 (p + 3 + 3 * j)) (fun j => qg_l h 46 0 (p + 4 + 3 * j)) (fun j => qg_l h 46 0 (p + 5 + 3 * j)) n m j sum be)))) h →
      Vw yX8_costOf cX8_costOf 20 ((some .long)) (qrm 1 23 0 0) 0 0 n0 Post 20 [(0, .inr (.inr (some (33, 0)))), (1, .inl (nI p)), (2, .inr (.inl n)), (4, .inr (.inl sum)), (6, .inr (.inl be)), (8, .inl (nI (k + 1))), (9, .inl (nI j))] [] h 0 0 := by
  intro m
  induction m with
  | zero =>
    intro j hj sum be hP
    have hj : j = k + 1 := by omega
    subst hj
    refine V_iload 22 dX8_costOf_20 rfl rfl ?_
    refine V_iload 24 dX8_costOf_22 rfl rfl ?_
    refine V_icmp_ge 185 27 dX8_costOf_24 rfl rfl (fun c_24 => ?_) (fun c_24 => ?_)
    · skip
      refine V_lload 187 dX8_costOf_185 rfl rfl ?_
      refine V_lret dX8_costOf_187 rfl ?_ (by first | exact Nat.le_refl _ | decide | omega) (by first | exact Nat.le_refl _ | decide | omega)
      exact hP
    · skip
      exact absurd (nI_le (Nat.le_refl _) (by omega)) c_24
  | succ m ih =>
    intro j hj sum be hP
    have e3 : nI p + 3 + 3 * nI j = nI (p + 3 + 3 * j) := by rw [show (3 : Int32) = nI 3 from rfl, nI_add, pk_mul, nI_add]
    have e4 : nI p + 4 + 3 * nI j = nI (p + 4 + 3 * j) := by rw [show (3 : Int32) = nI 3 from rfl, show (4 : Int32) = nI 4 from rfl, nI_add, pk_mul, nI_add]
    have e5 : nI p + 5 + 3 * nI j = nI (p + 5 + 3 * j) := by rw [show (3 : Int32) = nI 3 from rfl, show (5 : Int32) = nI 5 from rfl, nI_add, pk_mul, nI_add]
    have ek : nI j = nI k ↔ j = k := nI_eq (by omega) (by omega)
    have hP2 : be < n → ∀ S B, S = cst1 (qg_l h 46 0 p) (qg_l h 46 0 (p + 1)) n (qg_l h 46 0 (p + 4 + 3 * j)) (qg_l h 46 0 (p + 5 + 3 * j)) ((if j = k then n else m_min n (qg_l h 46 0 (p + 3 + 3 * j))) - be) sum → B = (if j = k then n else m_min n (qg_l h 46 0 (p + 3 + 3 * j))) → Post (some (.inr (.inl (cst (qg_l h 46 0 p) (qg_l h 46 0 (p + 1)) k (fun j => qg_l h 46 0 (p + 3 + 3 * j)) (fun j => qg_l h 46 0 (p + 4 + 3 * j)) (fun j => qg_l h 46 0 (p + 5 + 3 * j)) n m (j + 1) S B)))) h := by
      intro hb S B e1 e2
      rw [e1, e2]
      rw [cst, if_pos hb] at hP
      exact hP
    have hP3 : ¬ be < n → Post (some (.inr (.inl sum))) h := by
      intro hb
      rw [cst, if_neg hb] at hP
      exact hP
    clear hP
    refine V_iload 22 dX8_costOf_20 rfl rfl ?_
    refine V_iload 24 dX8_costOf_22 rfl rfl ?_
    refine V_icmp_ge 185 27 dX8_costOf_24 rfl rfl (fun c_24 => ?_) (fun c_24 => ?_)
    · skip
      exact absurd c_24 (nI_ge (by omega) (by omega))
    · skip
      refine V_lload 29 dX8_costOf_27 rfl rfl ?_
      refine V_lload_n 30 dX8_costOf_29 rfl rfl ?_
      refine V_lcmp 31 dX8_costOf_30 rfl ?_
      refine V_if_ge 185 34 dX8_costOf_31 rfl rfl (fun c_31 => ?_) (fun c_31 => ?_)
      · (rw [lg_ge] at c_31)
        refine V_lload 187 dX8_costOf_185 rfl rfl ?_
        refine V_lret dX8_costOf_187 rfl ?_ (by first | exact Nat.le_refl _ | decide | omega) (by first | exact Nat.le_refl _ | decide | omega)
        exact hP3 (by grind)
      · (rw [lg_ge] at c_31)
        refine V_iload 36 dX8_costOf_34 rfl rfl ?_
        refine V_iload 38 dX8_costOf_36 rfl rfl ?_
        refine V_iconst (v := 1) 39 dX8_costOf_38 rfl (by decide) ?_
        refine V_isub 40 dX8_costOf_39 rfl ?_
        rw [nI_pred]
        refine V_icmp_ne 47 43 dX8_costOf_40 rfl rfl (fun c_40 => ?_) (fun c_40 => ?_)
        · skip
          refine V_lload_n 48 dX8_costOf_47 rfl rfl ?_
          refine V_aload_n 49 dX8_costOf_48 rfl rfl ?_
          refine V_getR 52 8 16 fl_X8_131 dX8_costOf_49 rfl rfl (by decide) (Or.inr ⟨_, rfl⟩) (by decide) (sr_16 hS) ?_
          refine V_iload_n 53 dX8_costOf_52 rfl rfl ?_
          refine V_iconst (v := 3) 54 dX8_costOf_53 rfl (by decide) ?_
          refine V_iadd 55 dX8_costOf_54 rfl ?_
          refine V_iconst (v := 3) 56 dX8_costOf_55 rfl (by decide) ?_
          refine V_iload 58 dX8_costOf_56 rfl rfl ?_
          refine V_imul 59 dX8_costOf_58 rfl ?_
          refine V_iadd 60 dX8_costOf_59 rfl ?_
          refine V_laldN 61 (p + 3 + 3 * j) dX8_costOf_60 rfl rfl (by decide) e3 (show _ < 4752 by omega) (by decide) ?_
          refine V_cS2l 64 (ct_J9_min_f86c9 _ _ _) cs_X8_109 dX8_costOf_61 rfl ⟨Nat.le_of_ble_eq_true rfl, Nat.le_of_ble_eq_true rfl⟩ (Nat.le_of_ble_eq_true rfl) ⟨Nat.le_of_ble_eq_true rfl, Nat.le_of_ble_eq_true rfl⟩ (fun x h' hx hle => ?_)
          obtain ⟨rfl, rfl⟩ := hx
          refine V_lstore 66 dX8_costOf_64 rfl (by decide) ?_
          refine V_lload 68 dX8_costOf_66 rfl rfl ?_
          refine V_lload 70 dX8_costOf_68 rfl rfl ?_
          refine V_lsub 71 dX8_costOf_70 rfl ?_
          refine V_lstore 73 dX8_costOf_71 rfl (by decide) ?_
          refine V_aload_n 74 dX8_costOf_73 rfl rfl ?_
          refine V_getR 77 8 16 fl_X8_131 dX8_costOf_74 rfl rfl (by decide) (Or.inr ⟨_, rfl⟩) (by decide) (sr_16 hS) ?_
          refine V_iload_n 78 dX8_costOf_77 rfl rfl ?_
          refine V_iconst (v := 4) 79 dX8_costOf_78 rfl (by decide) ?_
          refine V_iadd 80 dX8_costOf_79 rfl ?_
          refine V_iconst (v := 3) 81 dX8_costOf_80 rfl (by decide) ?_
          refine V_iload 83 dX8_costOf_81 rfl rfl ?_
          refine V_imul 84 dX8_costOf_83 rfl ?_
          refine V_iadd 85 dX8_costOf_84 rfl ?_
          refine V_laldN 86 (p + 4 + 3 * j) dX8_costOf_85 rfl rfl (by decide) e4 (show _ < 4752 by omega) (by decide) ?_
          refine V_lstore 88 dX8_costOf_86 rfl (by decide) ?_
          refine V_aload_n 89 dX8_costOf_88 rfl rfl ?_
          refine V_getR 92 8 16 fl_X8_131 dX8_costOf_89 rfl rfl (by decide) (Or.inr ⟨_, rfl⟩) (by decide) (sr_16 hS) ?_
          refine V_iload_n 93 dX8_costOf_92 rfl rfl ?_
          refine V_iconst (v := 5) 94 dX8_costOf_93 rfl (by decide) ?_
          refine V_iadd 95 dX8_costOf_94 rfl ?_
          refine V_iconst (v := 3) 96 dX8_costOf_95 rfl (by decide) ?_
          refine V_iload 98 dX8_costOf_96 rfl rfl ?_
          refine V_imul 99 dX8_costOf_98 rfl ?_
          refine V_iadd 100 dX8_costOf_99 rfl ?_
          refine V_laldN 101 (p + 5 + 3 * j) dX8_costOf_100 rfl rfl (by decide) e5 (show _ < 4752 by omega) (by decide) ?_
          refine V_lstore 103 dX8_costOf_101 rfl (by decide) ?_
          refine V_aload_n 104 dX8_costOf_103 rfl rfl ?_
          refine V_getR 107 8 16 fl_X8_131 dX8_costOf_104 rfl rfl (by decide) (Or.inr ⟨_, rfl⟩) (by decide) (sr_16 hS) ?_
          refine V_iload_n 108 dX8_costOf_107 rfl rfl ?_
          refine V_laldN 109 (_) dX8_costOf_108 rfl rfl (by decide) rfl (show _ < 4752 by omega) (by decide) ?_
          refine V_lconst (v := 1) 110 dX8_costOf_109 rfl (by decide) ?_
          refine V_lcmp 111 dX8_costOf_110 rfl ?_
          refine V_if_ne 126 114 dX8_costOf_111 rfl rfl (fun c_111 => ?_) (fun c_111 => ?_)
          · (rw [lg_eq] at c_111)
            refine V_aload_n 127 dX8_costOf_126 rfl rfl ?_
            refine V_getR 130 8 16 fl_X8_131 dX8_costOf_127 rfl rfl (by decide) (Or.inr ⟨_, rfl⟩) (by decide) (sr_16 hS) ?_
            refine V_iload_n 131 dX8_costOf_130 rfl rfl ?_
            refine V_iconst (v := 1) 132 dX8_costOf_131 rfl (by decide) ?_
            refine V_iadd 133 dX8_costOf_132 rfl ?_
            refine V_laldN 134 (p + 1) dX8_costOf_133 rfl rfl (by decide) (nI_1 p) (show _ < 4752 by omega) (by decide) ?_
            refine V_lstore 136 dX8_costOf_134 rfl (by decide) ?_
            refine V_lload 138 dX8_costOf_136 rfl rfl ?_
            refine V_aload_n 139 dX8_costOf_138 rfl rfl ?_
            refine V_getR 142 8 16 fl_X8_131 dX8_costOf_139 rfl rfl (by decide) (Or.inr ⟨_, rfl⟩) (by decide) (sr_16 hS) ?_
            refine V_iload_n 143 dX8_costOf_142 rfl rfl ?_
            refine V_laldN 144 (_) dX8_costOf_143 rfl rfl (by decide) rfl (show _ < 4752 by omega) (by decide) ?_
            refine V_ldc2 (v := 2) 147 dX8_costOf_144 rfl wc_X8_183 ?_
            refine V_lcmp 148 dX8_costOf_147 rfl ?_
            refine V_if_ne 164 151 dX8_costOf_148 rfl rfl (fun c_148 => ?_) (fun c_148 => ?_)
            · (rw [lg_eq] at c_148)
              refine V_lload 166 dX8_costOf_164 rfl rfl ?_
              refine V_lload 168 dX8_costOf_166 rfl rfl ?_
              refine V_lmul 169 dX8_costOf_168 rfl ?_
              refine V_lload 171 dX8_costOf_169 rfl rfl ?_
              refine V_ladd 172 dX8_costOf_171 rfl ?_
              refine V_ladd 173 dX8_costOf_172 rfl ?_
              refine V_lstore 175 dX8_costOf_173 rfl (by decide) ?_
              refine V_lload 177 dX8_costOf_175 rfl rfl ?_
              refine V_lstore 179 dX8_costOf_177 rfl (by decide) ?_
              refine V_iincN 182 dX8_costOf_179 rfl rfl (by decide) ?_
              refine V_goto 20 dX8_costOf_182 rfl ?_
              refine V_at (ih (j + 1) (by omega) _ _ (hP2 (by grind) _ _ ?_ ?_)) ⟨rfl, rfl, rfl, rfl, rfl, rfl, rfl, trivial⟩
              · simp only [cst1, m_min]
                grind
              · simp only [m_min]
                grind
            · (rw [lg_eq] at c_148)
              refine V_lload 153 dX8_costOf_151 rfl rfl ?_
              refine V_lload 155 dX8_costOf_153 rfl rfl ?_
              refine V_ladd 156 dX8_costOf_155 rfl ?_
              refine V_lconst (v := 1) 157 dX8_costOf_156 rfl (by decide) ?_
              refine V_lsub 158 dX8_costOf_157 rfl ?_
              refine V_lload 160 dX8_costOf_158 rfl rfl ?_
              refine V_ldiv 161 dX8_costOf_160 rfl hz ?_
              refine V_goto 166 dX8_costOf_161 rfl ?_
              refine V_lload 168 dX8_costOf_166 rfl rfl ?_
              refine V_lmul 169 dX8_costOf_168 rfl ?_
              refine V_lload 171 dX8_costOf_169 rfl rfl ?_
              refine V_ladd 172 dX8_costOf_171 rfl ?_
              refine V_ladd 173 dX8_costOf_172 rfl ?_
              refine V_lstore 175 dX8_costOf_173 rfl (by decide) ?_
              refine V_lload 177 dX8_costOf_175 rfl rfl ?_
              refine V_lstore 179 dX8_costOf_177 rfl (by decide) ?_
              refine V_iincN 182 dX8_costOf_179 rfl rfl (by decide) ?_
              refine V_goto 20 dX8_costOf_182 rfl ?_
              refine V_at (ih (j + 1) (by omega) _ _ (hP2 (by grind) _ _ ?_ ?_)) ⟨rfl, rfl, rfl, rfl, rfl, rfl, rfl, trivial⟩
              · simp only [cst1, m_min]
                grind
              · simp only [m_min]
                grind
          · (rw [lg_eq] at c_111)
            refine V_lload_n 115 dX8_costOf_114 rfl rfl ?_
            refine V_lload 117 dX8_costOf_115 rfl rfl ?_
            refine V_lmul 118 dX8_costOf_117 rfl ?_
            refine V_lload 120 dX8_costOf_118 rfl rfl ?_
            refine V_ladd 121 dX8_costOf_120 rfl ?_
            refine V_lstore 123 dX8_costOf_121 rfl (by decide) ?_
            refine V_goto 175 dX8_costOf_123 rfl ?_
            refine V_lload 177 dX8_costOf_175 rfl rfl ?_
            refine V_lstore 179 dX8_costOf_177 rfl (by decide) ?_
            refine V_iincN 182 dX8_costOf_179 rfl rfl (by decide) ?_
            refine V_goto 20 dX8_costOf_182 rfl ?_
            refine V_at (ih (j + 1) (by omega) _ _ (hP2 (by grind) _ _ ?_ ?_)) ⟨rfl, rfl, rfl, rfl, rfl, rfl, rfl, trivial⟩
            · simp only [cst1, m_min]
              grind
            · simp only [m_min]
              grind
        · skip
          refine V_lload_n 44 dX8_costOf_43 rfl rfl ?_
          refine V_goto 64 dX8_costOf_44 rfl ?_
          refine V_lstore 66 dX8_costOf_64 rfl (by decide) ?_
          refine V_lload 68 dX8_costOf_66 rfl rfl ?_
          refine V_lload 70 dX8_costOf_68 rfl rfl ?_
          refine V_lsub 71 dX8_costOf_70 rfl ?_
          refine V_lstore 73 dX8_costOf_71 rfl (by decide) ?_
          refine V_aload_n 74 dX8_costOf_73 rfl rfl ?_
          refine V_getR 77 8 16 fl_X8_131 dX8_costOf_74 rfl rfl (by decide) (Or.inr ⟨_, rfl⟩) (by decide) (sr_16 hS) ?_
          refine V_iload_n 78 dX8_costOf_77 rfl rfl ?_
          refine V_iconst (v := 4) 79 dX8_costOf_78 rfl (by decide) ?_
          refine V_iadd 80 dX8_costOf_79 rfl ?_
          refine V_iconst (v := 3) 81 dX8_costOf_80 rfl (by decide) ?_
          refine V_iload 83 dX8_costOf_81 rfl rfl ?_
          refine V_imul 84 dX8_costOf_83 rfl ?_
          refine V_iadd 85 dX8_costOf_84 rfl ?_
          refine V_laldN 86 (p + 4 + 3 * j) dX8_costOf_85 rfl rfl (by decide) e4 (show _ < 4752 by omega) (by decide) ?_
          refine V_lstore 88 dX8_costOf_86 rfl (by decide) ?_
          refine V_aload_n 89 dX8_costOf_88 rfl rfl ?_
          refine V_getR 92 8 16 fl_X8_131 dX8_costOf_89 rfl rfl (by decide) (Or.inr ⟨_, rfl⟩) (by decide) (sr_16 hS) ?_
          refine V_iload_n 93 dX8_costOf_92 rfl rfl ?_
          refine V_iconst (v := 5) 94 dX8_costOf_93 rfl (by decide) ?_
          refine V_iadd 95 dX8_costOf_94 rfl ?_
          refine V_iconst (v := 3) 96 dX8_costOf_95 rfl (by decide) ?_
          refine V_iload 98 dX8_costOf_96 rfl rfl ?_
          refine V_imul 99 dX8_costOf_98 rfl ?_
          refine V_iadd 100 dX8_costOf_99 rfl ?_
          refine V_laldN 101 (p + 5 + 3 * j) dX8_costOf_100 rfl rfl (by decide) e5 (show _ < 4752 by omega) (by decide) ?_
          refine V_lstore 103 dX8_costOf_101 rfl (by decide) ?_
          refine V_aload_n 104 dX8_costOf_103 rfl rfl ?_
          refine V_getR 107 8 16 fl_X8_131 dX8_costOf_104 rfl rfl (by decide) (Or.inr ⟨_, rfl⟩) (by decide) (sr_16 hS) ?_
          refine V_iload_n 108 dX8_costOf_107 rfl rfl ?_
          refine V_laldN 109 (_) dX8_costOf_108 rfl rfl (by decide) rfl (show _ < 4752 by omega) (by decide) ?_
          refine V_lconst (v := 1) 110 dX8_costOf_109 rfl (by decide) ?_
          refine V_lcmp 111 dX8_costOf_110 rfl ?_
          refine V_if_ne 126 114 dX8_costOf_111 rfl rfl (fun c_111 => ?_) (fun c_111 => ?_)
          · (rw [lg_eq] at c_111)
            refine V_aload_n 127 dX8_costOf_126 rfl rfl ?_
            refine V_getR 130 8 16 fl_X8_131 dX8_costOf_127 rfl rfl (by decide) (Or.inr ⟨_, rfl⟩) (by decide) (sr_16 hS) ?_
            refine V_iload_n 131 dX8_costOf_130 rfl rfl ?_
            refine V_iconst (v := 1) 132 dX8_costOf_131 rfl (by decide) ?_
            refine V_iadd 133 dX8_costOf_132 rfl ?_
            refine V_laldN 134 (p + 1) dX8_costOf_133 rfl rfl (by decide) (nI_1 p) (show _ < 4752 by omega) (by decide) ?_
            refine V_lstore 136 dX8_costOf_134 rfl (by decide) ?_
            refine V_lload 138 dX8_costOf_136 rfl rfl ?_
            refine V_aload_n 139 dX8_costOf_138 rfl rfl ?_
            refine V_getR 142 8 16 fl_X8_131 dX8_costOf_139 rfl rfl (by decide) (Or.inr ⟨_, rfl⟩) (by decide) (sr_16 hS) ?_
            refine V_iload_n 143 dX8_costOf_142 rfl rfl ?_
            refine V_laldN 144 (_) dX8_costOf_143 rfl rfl (by decide) rfl (show _ < 4752 by omega) (by decide) ?_
            refine V_ldc2 (v := 2) 147 dX8_costOf_144 rfl wc_X8_183 ?_
            refine V_lcmp 148 dX8_costOf_147 rfl ?_
            refine V_if_ne 164 151 dX8_costOf_148 rfl rfl (fun c_148 => ?_) (fun c_148 => ?_)
            · (rw [lg_eq] at c_148)
              refine V_lload 166 dX8_costOf_164 rfl rfl ?_
              refine V_lload 168 dX8_costOf_166 rfl rfl ?_
              refine V_lmul 169 dX8_costOf_168 rfl ?_
              refine V_lload 171 dX8_costOf_169 rfl rfl ?_
              refine V_ladd 172 dX8_costOf_171 rfl ?_
              refine V_ladd 173 dX8_costOf_172 rfl ?_
              refine V_lstore 175 dX8_costOf_173 rfl (by decide) ?_
              refine V_lload 177 dX8_costOf_175 rfl rfl ?_
              refine V_lstore 179 dX8_costOf_177 rfl (by decide) ?_
              refine V_iincN 182 dX8_costOf_179 rfl rfl (by decide) ?_
              refine V_goto 20 dX8_costOf_182 rfl ?_
              refine V_at (ih (j + 1) (by omega) _ _ (hP2 (by grind) _ _ ?_ ?_)) ⟨rfl, rfl, rfl, rfl, rfl, rfl, rfl, trivial⟩
              · simp only [cst1, m_min]
                grind
              · simp only [m_min]
                grind
            · (rw [lg_eq] at c_148)
              refine V_lload 153 dX8_costOf_151 rfl rfl ?_
              refine V_lload 155 dX8_costOf_153 rfl rfl ?_
              refine V_ladd 156 dX8_costOf_155 rfl ?_
              refine V_lconst (v := 1) 157 dX8_costOf_156 rfl (by decide) ?_
              refine V_lsub 158 dX8_costOf_157 rfl ?_
              refine V_lload 160 dX8_costOf_158 rfl rfl ?_
              refine V_ldiv 161 dX8_costOf_160 rfl hz ?_
              refine V_goto 166 dX8_costOf_161 rfl ?_
              refine V_lload 168 dX8_costOf_166 rfl rfl ?_
              refine V_lmul 169 dX8_costOf_168 rfl ?_
              refine V_lload 171 dX8_costOf_169 rfl rfl ?_
              refine V_ladd 172 dX8_costOf_171 rfl ?_
              refine V_ladd 173 dX8_costOf_172 rfl ?_
              refine V_lstore 175 dX8_costOf_173 rfl (by decide) ?_
              refine V_lload 177 dX8_costOf_175 rfl rfl ?_
              refine V_lstore 179 dX8_costOf_177 rfl (by decide) ?_
              refine V_iincN 182 dX8_costOf_179 rfl rfl (by decide) ?_
              refine V_goto 20 dX8_costOf_182 rfl ?_
              refine V_at (ih (j + 1) (by omega) _ _ (hP2 (by grind) _ _ ?_ ?_)) ⟨rfl, rfl, rfl, rfl, rfl, rfl, rfl, trivial⟩
              · simp only [cst1, m_min]
                grind
              · simp only [m_min]
                grind
          · (rw [lg_eq] at c_111)
            refine V_lload_n 115 dX8_costOf_114 rfl rfl ?_
            refine V_lload 117 dX8_costOf_115 rfl rfl ?_
            refine V_lmul 118 dX8_costOf_117 rfl ?_
            refine V_lload 120 dX8_costOf_118 rfl rfl ?_
            refine V_ladd 121 dX8_costOf_120 rfl ?_
            refine V_lstore 123 dX8_costOf_121 rfl (by decide) ?_
            refine V_goto 175 dX8_costOf_123 rfl ?_
            refine V_lload 177 dX8_costOf_175 rfl rfl ?_
            refine V_lstore 179 dX8_costOf_177 rfl (by decide) ?_
            refine V_iincN 182 dX8_costOf_179 rfl rfl (by decide) ?_
            refine V_goto 20 dX8_costOf_182 rfl ?_
            refine V_at (ih (j + 1) (by omega) _ _ (hP2 (by grind) _ _ ?_ ?_)) ⟨rfl, rfl, rfl, rfl, rfl, rfl, rfl, trivial⟩
            · simp only [cst1, m_min]
              grind
            · simp only [m_min]
              grind
theorem ct_X8_costOf {p k : Nat} {n : Int64} (hS : SHR h) (hp : p + 18 ≤ 4752) (hk : k < 5) (hz : ¬ qg_l h 46 0 (p + 1) = 0) (he : (qg_l h 46 0 (p + 2)).toInt32 = nI (k + 1)) : qM yX8_costOf cX8_costOf 20 ((some .long)) 1 23 0 0 [.inr (.inr (some (33, 0))), .inl (nI p), .inr (.inl n)] h (pL fun x h' => x = m_cost h p k n ∧ h' = h) := by
  refine qM.of (plainFor_of_name (by decide)) (Nat.le_of_ble_eq_true rfl) ?_
  refine V_lconst (v := 0) 1 dX8_costOf_0 rfl (by decide) ?_
  refine V_lstore 3 dX8_costOf_1 rfl (by decide) ?_
  refine V_lconst (v := 0) 4 dX8_costOf_3 rfl (by decide) ?_
  refine V_lstore 6 dX8_costOf_4 rfl (by decide) ?_
  refine V_aload_n 7 dX8_costOf_6 rfl rfl ?_
  refine V_getR 10 8 16 fl_X8_131 dX8_costOf_7 rfl rfl (by decide) (Or.inr ⟨_, rfl⟩) (by decide) (sr_16 hS) ?_
  refine V_iload_n 11 dX8_costOf_10 rfl rfl ?_
  refine V_iconst (v := 2) 12 dX8_costOf_11 rfl (by decide) ?_
  refine V_iadd 13 dX8_costOf_12 rfl ?_
  refine V_laldN 14 (p + 2) dX8_costOf_13 rfl rfl (by decide) (nI_add p 2) (show _ < 4752 by omega) (by decide) ?_
  refine V_l2i 15 dX8_costOf_14 rfl ?_
  rw [he]
  refine V_istore 17 dX8_costOf_15 rfl (by decide) ?_
  refine V_iconst (v := 0) 18 dX8_costOf_17 rfl (by decide) ?_
  refine V_istore 20 dX8_costOf_18 rfl (by decide) ?_
  exact V_at (lp_X8_costOf hS hp hk hz (k + 1) 0 (by omega) 0 0 ⟨_, rfl, rfl, rfl⟩) ⟨rfl, rfl, rfl, rfl, rfl, rfl, rfl, trivial⟩
theorem ct_X8_cost_ok {t r k : Nat} {n : Int64} (hS : SHR h) (ht : t < 6) (hr : r < 4) (hk : k < 5) (hz : ¬ qg_l h 46 0 (18 * (4 * t + r) + 1) = 0) (he : (qg_l h 46 0 (18 * (4 * t + r) + 2)).toInt32 = nI (k + 1)) (hn : 0 ≤ n ∧ n ≤ 10000000000) : qM yX8_cost cX8_cost 5 ((some .long)) 2 62 0 0 [.inr (.inr (some (33, 0))), .inl (nI t), .inl (nI r), .inr (.inl n)] h (pL fun x h' => x = m_cost h (18 * (4 * t + r)) k n ∧ h' = h) := by
  refine qM.of (plainFor_of_name (by decide)) (Nat.le_of_ble_eq_true rfl) ?_
  refine V_iload_n 1 dX8_cost_0 rfl rfl ?_
  refine V_cS1i 4 (ct_isTen_ok ht) cs_X8_7 dX8_cost_1 rfl ⟨Nat.le_of_ble_eq_true rfl, Nat.le_of_ble_eq_true rfl⟩ (Nat.le_of_ble_eq_true rfl) ⟨Nat.le_of_ble_eq_true rfl, Nat.le_of_ble_eq_true rfl⟩ (fun x h' hx hle => ?_)
  obtain ⟨rfl, rfl⟩ := hx
  refine V_if_eq 41 7 dX8_cost_4 rfl rfl (fun c_4 => ?_) (fun c_4 => ?_)
  · skip
    exact absurd c_4 (by decide)
  · skip
    refine V_iload_n 8 dX8_cost_7 rfl rfl ?_
    refine V_cS1i 11 (ct_isRes_ok hr) cs_X8_28 dX8_cost_8 rfl ⟨Nat.le_of_ble_eq_true rfl, Nat.le_of_ble_eq_true rfl⟩ (Nat.le_of_ble_eq_true rfl) ⟨Nat.le_of_ble_eq_true rfl, Nat.le_of_ble_eq_true rfl⟩ (fun x h' hx hle => ?_)
    obtain ⟨rfl, rfl⟩ := hx
    refine V_if_eq 41 14 dX8_cost_11 rfl rfl (fun c_11 => ?_) (fun c_11 => ?_)
    · skip
      exact absurd c_11 (by decide)
    · skip
      refine V_lload_n 15 dX8_cost_14 rfl rfl ?_
      refine V_lconst (v := 0) 16 dX8_cost_15 rfl (by decide) ?_
      refine V_lcmp 17 dX8_cost_16 rfl ?_
      refine V_if_lt 41 20 dX8_cost_17 rfl rfl (fun c_17 => ?_) (fun c_17 => ?_)
      · (rw [lg_lt] at c_17)
        grind
      · (rw [lg_lt] at c_17)
        refine V_lload_n 21 dX8_cost_20 rfl rfl ?_
        refine V_ldc2 (v := 10000000000) 24 dX8_cost_21 rfl wc_X8_177 ?_
        refine V_lcmp 25 dX8_cost_24 rfl ?_
        refine V_if_gt 41 28 dX8_cost_25 rfl rfl (fun c_25 => ?_) (fun c_25 => ?_)
        · (rw [lg_gt] at c_25)
          grind
        · (rw [lg_gt] at c_25)
          refine V_aload_n 29 dX8_cost_28 rfl rfl ?_
          refine V_iload_n 30 dX8_cost_29 rfl rfl ?_
          refine V_iload_n 31 dX8_cost_30 rfl rfl ?_
          refine V_cS2i 34 (ct_X8_row _ _ _) cs_X8_174 dX8_cost_31 rfl ⟨Nat.le_of_ble_eq_true rfl, Nat.le_of_ble_eq_true rfl⟩ (Nat.le_of_ble_eq_true rfl) ⟨Nat.le_of_ble_eq_true rfl, Nat.le_of_ble_eq_true rfl⟩ (fun x h' hx hle => ?_)
          obtain ⟨rfl, rfl⟩ := hx
          refine V_lload_n 35 dX8_cost_34 rfl rfl ?_
          refine V_cV2l 38 (ct_X8_costOf hS (by omega) hk hz he) cs_X8_179 rfl rfl (by decide) dX8_cost_35 rfl ⟨Nat.le_of_ble_eq_true rfl, Nat.le_of_ble_eq_true rfl⟩ (Nat.le_of_ble_eq_true rfl) ⟨Nat.le_of_ble_eq_true rfl, Nat.le_of_ble_eq_true rfl⟩ (fun x h' hx hle => ?_)
          obtain ⟨rfl, rfl⟩ := hx
          refine V_goto 44 dX8_cost_38 rfl ?_
          refine V_lret dX8_cost_44 rfl ⟨_, rfl, ?_⟩ (by first | exact Nat.le_refl _ | decide | omega) (by first | exact Nat.le_refl _ | decide | omega)
          exact ⟨rfl, rfl⟩
theorem ct_X8_cost_bad {t r : Int32} {n : Int64} (hbad : ¬ ((0 ≤ t ∧ t < 6) ∧ (0 ≤ r ∧ r < 4) ∧ (0 ≤ n ∧ n ≤ 10000000000))) : qM yX8_cost cX8_cost 5 ((some .long)) 2 62 0 0 [.inr (.inr (some (33, 0))), .inl t, .inl r, .inr (.inl n)] h (pL fun x h' => x = -2 ∧ h' = h) := by
  refine qM.of (plainFor_of_name (by decide)) (Nat.le_of_ble_eq_true rfl) ?_
  refine V_iload_n 1 dX8_cost_0 rfl rfl ?_
  refine V_cS1i 4 (ct_X8_isTenant _ _) cs_X8_7 dX8_cost_1 rfl ⟨Nat.le_of_ble_eq_true rfl, Nat.le_of_ble_eq_true rfl⟩ (Nat.le_of_ble_eq_true rfl) ⟨Nat.le_of_ble_eq_true rfl, Nat.le_of_ble_eq_true rfl⟩ (fun x h' hx hle => ?_)
  obtain ⟨rfl, rfl⟩ := hx
  refine V_if_eq 41 7 dX8_cost_4 rfl rfl (fun c_4 => ?_) (fun c_4 => ?_)
  · skip
    refine V_ldc2 (v := -2) 44 dX8_cost_41 rfl wc_X8_75 ?_
    refine V_lret dX8_cost_44 rfl ⟨_, rfl, ?_⟩ (by first | exact Nat.le_refl _ | decide | omega) (by first | exact Nat.le_refl _ | decide | omega)
    exact ⟨rfl, rfl⟩
  · skip
    refine V_iload_n 8 dX8_cost_7 rfl rfl ?_
    refine V_cS1i 11 (ct_X8_isResource _ _) cs_X8_28 dX8_cost_8 rfl ⟨Nat.le_of_ble_eq_true rfl, Nat.le_of_ble_eq_true rfl⟩ (Nat.le_of_ble_eq_true rfl) ⟨Nat.le_of_ble_eq_true rfl, Nat.le_of_ble_eq_true rfl⟩ (fun x h' hx hle => ?_)
    obtain ⟨rfl, rfl⟩ := hx
    refine V_if_eq 41 14 dX8_cost_11 rfl rfl (fun c_11 => ?_) (fun c_11 => ?_)
    · skip
      refine V_ldc2 (v := -2) 44 dX8_cost_41 rfl wc_X8_75 ?_
      refine V_lret dX8_cost_44 rfl ⟨_, rfl, ?_⟩ (by first | exact Nat.le_refl _ | decide | omega) (by first | exact Nat.le_refl _ | decide | omega)
      exact ⟨rfl, rfl⟩
    · skip
      refine V_lload_n 15 dX8_cost_14 rfl rfl ?_
      refine V_lconst (v := 0) 16 dX8_cost_15 rfl (by decide) ?_
      refine V_lcmp 17 dX8_cost_16 rfl ?_
      refine V_if_lt 41 20 dX8_cost_17 rfl rfl (fun c_17 => ?_) (fun c_17 => ?_)
      · (rw [lg_lt] at c_17)
        refine V_ldc2 (v := -2) 44 dX8_cost_41 rfl wc_X8_75 ?_
        refine V_lret dX8_cost_44 rfl ⟨_, rfl, ?_⟩ (by first | exact Nat.le_refl _ | decide | omega) (by first | exact Nat.le_refl _ | decide | omega)
        exact ⟨rfl, rfl⟩
      · (rw [lg_lt] at c_17)
        refine V_lload_n 21 dX8_cost_20 rfl rfl ?_
        refine V_ldc2 (v := 10000000000) 24 dX8_cost_21 rfl wc_X8_177 ?_
        refine V_lcmp 25 dX8_cost_24 rfl ?_
        refine V_if_gt 41 28 dX8_cost_25 rfl rfl (fun c_25 => ?_) (fun c_25 => ?_)
        · (rw [lg_gt] at c_25)
          refine V_ldc2 (v := -2) 44 dX8_cost_41 rfl wc_X8_75 ?_
          refine V_lret dX8_cost_44 rfl ⟨_, rfl, ?_⟩ (by first | exact Nat.le_refl _ | decide | omega) (by first | exact Nat.le_refl _ | decide | omega)
          exact ⟨rfl, rfl⟩
        · (rw [lg_gt] at c_25)
          exfalso; grind
/-- a tenant's quantity of r in p -/
def m_qty (h : qH) (na : Nat) (t : Int32) (r p : Nat) : Int64 := sm_l (fun a => if qg_i h 34 0 a = t then qg_l h 37 0 ((4 * a + r) * 100 + p) else 0) na
theorem lp_X8_quantity {na r p : Nat} {t : Int32} (hS : SHR h) (e : qg_i h 33 0 1 = nI na) (hna : na ≤ 24) (hr : r < 4) (hpp : p < 100) {n0 : Nat → Nat} {Post : Option qV → qH → Prop} (hP : Post (some (.inr (.inl (m_qty h na t r p)))) h) :
    ∀ (m i : Nat), i + m = na → Vw yX8_quantity cX8_quantity 7 ((some .long)) (qrm 1 22 0 0) 0 0 n0 Post 6 [(0, .inr (.inr (some (33, 0)))), (1, .inl t), (2, .inl (nI r)), (3, .inl (nI p)), (4, .inr (.inl (m_qty h i t r p))), (6, .inl (nI i))] [] h 0 0 := by
  intro m
  induction m with
  | zero =>
    intro i hi
    have hi : i = na := by omega
    subst hi
    refine V_iload 8 dX8_quantity_6 rfl rfl ?_
    refine V_aload_n 9 dX8_quantity_8 rfl rfl ?_
    refine V_getiV 12 8 1 fl_X8_3 dX8_quantity_9 rfl rfl (by decide) rfl (by decide) e ?_
    refine V_icmp_ge 53 15 dX8_quantity_12 rfl rfl (fun c_12 => ?_) (fun c_12 => ?_)
    · skip
      refine V_lload 55 dX8_quantity_53 rfl rfl ?_
      refine V_lret dX8_quantity_55 rfl ?_ (by first | exact Nat.le_refl _ | decide | omega) (by first | exact Nat.le_refl _ | decide | omega)
      exact hP
    · skip
      exact absurd (nI_le (Nat.le_refl _) (by omega)) c_12
  | succ m ih =>
    intro i hi
    refine V_iload 8 dX8_quantity_6 rfl rfl ?_
    refine V_aload_n 9 dX8_quantity_8 rfl rfl ?_
    refine V_getiV 12 8 1 fl_X8_3 dX8_quantity_9 rfl rfl (by decide) rfl (by decide) e ?_
    refine V_icmp_ge 53 15 dX8_quantity_12 rfl rfl (fun c_12 => ?_) (fun c_12 => ?_)
    · skip
      exact absurd c_12 (nI_ge (by omega) (by omega))
    · skip
      refine V_lload 17 dX8_quantity_15 rfl rfl ?_
      refine V_aload_n 18 dX8_quantity_17 rfl rfl ?_
      refine V_getR 21 8 2 fl_X8_14 dX8_quantity_18 rfl rfl (by decide) (Or.inr ⟨_, rfl⟩) (by decide) (sr_2 hS) ?_
      refine V_iload 23 dX8_quantity_21 rfl rfl ?_
      refine V_ialdN 24 (_) dX8_quantity_23 rfl rfl (by decide) rfl (show _ < 24 by omega) (by decide) ?_
      refine V_iload_n 25 dX8_quantity_24 rfl rfl ?_
      refine V_icmp_ne 43 28 dX8_quantity_25 rfl rfl (fun c_25 => ?_) (fun c_25 => ?_)
      · skip
        refine V_lconst (v := 0) 44 dX8_quantity_43 rfl (by decide) ?_
        refine V_ladd 45 dX8_quantity_44 rfl ?_
        refine V_lstore 47 dX8_quantity_45 rfl (by decide) ?_
        refine V_iincN 50 dX8_quantity_47 rfl rfl (by decide) ?_
        refine V_goto 6 dX8_quantity_50 rfl ?_
        refine V_at (ih (i + 1) (by omega)) ⟨rfl, rfl, rfl, rfl, ?_, rfl, trivial⟩
        show some _ = some _
        simp only [m_qty, sm_l]
        grind
      · skip
        refine V_aload_n 29 dX8_quantity_28 rfl rfl ?_
        refine V_getR 32 8 5 fl_X8_56 dX8_quantity_29 rfl rfl (by decide) (Or.inr ⟨_, rfl⟩) (by decide) (sr_5 hS) ?_
        refine V_iload 34 dX8_quantity_32 rfl rfl ?_
        refine V_iload_n 35 dX8_quantity_34 rfl rfl ?_
        refine V_iload_n 36 dX8_quantity_35 rfl rfl ?_
        refine V_cS3i 39 (ct_X8_cell _ _ _ _) cs_X8_59 dX8_quantity_36 rfl ⟨Nat.le_of_ble_eq_true rfl, Nat.le_of_ble_eq_true rfl⟩ (Nat.le_of_ble_eq_true rfl) ⟨Nat.le_of_ble_eq_true rfl, Nat.le_of_ble_eq_true rfl⟩ (fun x h' hx hle => ?_)
        obtain ⟨rfl, rfl⟩ := hx
        refine V_laldN 40 (_) dX8_quantity_39 rfl rfl (by decide) rfl (show _ < 9600 by omega) (by decide) ?_
        refine V_goto 44 dX8_quantity_40 rfl ?_
        refine V_ladd 45 dX8_quantity_44 rfl ?_
        refine V_lstore 47 dX8_quantity_45 rfl (by decide) ?_
        refine V_iincN 50 dX8_quantity_47 rfl rfl (by decide) ?_
        refine V_goto 6 dX8_quantity_50 rfl ?_
        refine V_at (ih (i + 1) (by omega)) ⟨rfl, rfl, rfl, rfl, ?_, rfl, trivial⟩
        show some _ = some _
        simp only [m_qty, sm_l]
        grind
theorem ct_X8_quantity {na r p : Nat} {t : Int32} (hS : SHR h) (e : qg_i h 33 0 1 = nI na) (hna : na ≤ 24) (hr : r < 4) (hpp : p < 100) : qM yX8_quantity cX8_quantity 7 ((some .long)) 1 22 0 0 [.inr (.inr (some (33, 0))), .inl t, .inl (nI r), .inl (nI p)] h (pL fun x h' => x = m_qty h na t r p ∧ h' = h) := by
  refine qM.of (plainFor_of_name (by decide)) (Nat.le_of_ble_eq_true rfl) ?_
  refine V_lconst (v := 0) 1 dX8_quantity_0 rfl (by decide) ?_
  refine V_lstore 3 dX8_quantity_1 rfl (by decide) ?_
  refine V_iconst (v := 0) 4 dX8_quantity_3 rfl (by decide) ?_
  refine V_istore 6 dX8_quantity_4 rfl (by decide) ?_
  exact V_at (lp_X8_quantity hS e hna hr hpp ⟨_, rfl, rfl, rfl⟩ na 0 (by omega)) ⟨rfl, rfl, rfl, rfl, rfl, rfl, trivial⟩
/-- the first invoice of that tenant and period -/
theorem lp_X8_invoiceOf {t p : Int32} {i0 : Nat} (hS : SHR h) (hi0 : i0 < 60) (h1 : qg_i h 57 0 i0 = t ∧ qg_i h 58 0 i0 = p) (h2 : ∀ i, i < i0 → ¬ (qg_i h 57 0 i = t ∧ qg_i h 58 0 i = p)) {n0 : Nat → Nat} {Post : Option qV → qH → Prop} (hP : Post (some (.inl (nI i0))) h) :
    ∀ (m i : Nat), i + m = i0 → Vw yX8_invoiceOf cX8_invoiceOf 4 ((some .int)) (qrm 0 0 0 0) 0 0 n0 Post 2 [(0, .inr (.inr (some (33, 0)))), (1, .inl t), (2, .inl p), (3, .inl (nI i))] [] h 0 0 := by
  intro m
  induction m with
  | zero =>
    intro i hi
    have hi : i = i0 := by omega
    subst hi
    refine V_aload_n 3 dX8_invoiceOf_2 rfl rfl ?_
    refine V_getR 6 8 28 fl_X8_161 dX8_invoiceOf_3 rfl rfl (by decide) (Or.inr ⟨_, rfl⟩) (by decide) (sr_28 hS) ?_
    refine V_iload_n 7 dX8_invoiceOf_6 rfl rfl ?_
    refine V_ialdN 8 (_) dX8_invoiceOf_7 rfl rfl (by decide) rfl (show _ < 60 by omega) (by decide) ?_
    refine V_iload_n 9 dX8_invoiceOf_8 rfl rfl ?_
    refine V_icmp_ne 22 12 dX8_invoiceOf_9 rfl rfl (fun c_9 => ?_) (fun c_9 => ?_)
    · skip
      exact absurd h1.1 c_9
    · skip
      refine V_aload_n 13 dX8_invoiceOf_12 rfl rfl ?_
      refine V_getR 16 8 29 fl_X8_164 dX8_invoiceOf_13 rfl rfl (by decide) (Or.inr ⟨_, rfl⟩) (by decide) (sr_29 hS) ?_
      refine V_iload_n 17 dX8_invoiceOf_16 rfl rfl ?_
      refine V_ialdN 18 (_) dX8_invoiceOf_17 rfl rfl (by decide) rfl (show _ < 60 by omega) (by decide) ?_
      refine V_iload_n 19 dX8_invoiceOf_18 rfl rfl ?_
      refine V_icmp_eq 28 22 dX8_invoiceOf_19 rfl rfl (fun c_19 => ?_) (fun c_19 => ?_)
      · skip
        refine V_iload_n 29 dX8_invoiceOf_28 rfl rfl ?_
        refine V_iret dX8_invoiceOf_29 rfl rfl ?_ (by first | exact Nat.le_refl _ | decide | omega) (by first | exact Nat.le_refl _ | decide | omega)
        exact hP
      · skip
        exact absurd h1.2 c_19
  | succ m ih =>
    intro i hi
    have h3 := h2 i (by omega)
    refine V_aload_n 3 dX8_invoiceOf_2 rfl rfl ?_
    refine V_getR 6 8 28 fl_X8_161 dX8_invoiceOf_3 rfl rfl (by decide) (Or.inr ⟨_, rfl⟩) (by decide) (sr_28 hS) ?_
    refine V_iload_n 7 dX8_invoiceOf_6 rfl rfl ?_
    refine V_ialdN 8 (_) dX8_invoiceOf_7 rfl rfl (by decide) rfl (show _ < 60 by omega) (by decide) ?_
    refine V_iload_n 9 dX8_invoiceOf_8 rfl rfl ?_
    refine V_icmp_ne 22 12 dX8_invoiceOf_9 rfl rfl (fun c_9 => ?_) (fun c_9 => ?_)
    · skip
      refine V_iincN 25 dX8_invoiceOf_22 rfl rfl (by decide) ?_
      refine V_goto 2 dX8_invoiceOf_25 rfl ?_
      exact V_at (ih (i + 1) (by omega)) ⟨rfl, rfl, rfl, rfl, trivial⟩
    · skip
      refine V_aload_n 13 dX8_invoiceOf_12 rfl rfl ?_
      refine V_getR 16 8 29 fl_X8_164 dX8_invoiceOf_13 rfl rfl (by decide) (Or.inr ⟨_, rfl⟩) (by decide) (sr_29 hS) ?_
      refine V_iload_n 17 dX8_invoiceOf_16 rfl rfl ?_
      refine V_ialdN 18 (_) dX8_invoiceOf_17 rfl rfl (by decide) rfl (show _ < 60 by omega) (by decide) ?_
      refine V_iload_n 19 dX8_invoiceOf_18 rfl rfl ?_
      refine V_icmp_eq 28 22 dX8_invoiceOf_19 rfl rfl (fun c_19 => ?_) (fun c_19 => ?_)
      · skip
        exact absurd ⟨c_9, c_19⟩ h3
      · skip
        refine V_iincN 25 dX8_invoiceOf_22 rfl rfl (by decide) ?_
        refine V_goto 2 dX8_invoiceOf_25 rfl ?_
        exact V_at (ih (i + 1) (by omega)) ⟨rfl, rfl, rfl, rfl, trivial⟩
theorem ct_X8_invoiceOf {t p : Int32} {i0 : Nat} (hS : SHR h) (hi0 : i0 < 60) (h1 : qg_i h 57 0 i0 = t ∧ qg_i h 58 0 i0 = p) (h2 : ∀ i, i < i0 → ¬ (qg_i h 57 0 i = t ∧ qg_i h 58 0 i = p)) : qM yX8_invoiceOf cX8_invoiceOf 4 ((some .int)) 0 0 0 0 [.inr (.inr (some (33, 0))), .inl t, .inl p] h (pI fun x h' => x = nI i0 ∧ h' = h) := by
  refine qM.of (plainFor_of_name (by decide)) (Nat.le_of_ble_eq_true rfl) ?_
  refine V_iconst (v := 0) 1 dX8_invoiceOf_0 rfl (by decide) ?_
  refine V_istore_n 2 dX8_invoiceOf_1 rfl (by decide) ?_
  exact V_at (lp_X8_invoiceOf hS hi0 h1 h2 ⟨_, rfl, rfl, rfl⟩ i0 0 (by omega)) ⟨rfl, rfl, rfl, rfl, trivial⟩
def m_adj (h : qH) (k : Nat) (u x : Int64) : qH := qs_i (qs_l (qs_l h 54 0 k (qg_l h 54 0 k + u)) 55 0 k (qg_l h 55 0 k + x)) 56 0 k 1
theorem ct_X8_adjust {na t r p i0 k : Nat} {u : Int32} (hS : SHR h) (e : qg_i h 33 0 1 = nI na) (hna : na ≤ 24) (ht : t < 6) (hr : r < 4) (hpp : p < 100) (hi0 : i0 < 60) (h1 : qg_i h 57 0 i0 = nI t ∧ qg_i h 58 0 i0 = nI p) (h2 : ∀ i, i < i0 → ¬ (qg_i h 57 0 i = nI t ∧ qg_i h 58 0 i = nI p)) (hk : k < 5) (hz : ¬ qg_l h 46 0 (18 * (24 + 4 * i0 + r) + 1) = 0) (he : (qg_l h 46 0 (18 * (24 + 4 * i0 + r) + 2)).toInt32 = nI (k + 1)) :
    qM yX8_adjust cX8_adjust 9 none 2 62 0 0 [.inr (.inr (some (33, 0))), .inl (nI t), .inl (nI r), .inl (nI p), .inl u] h (pV fun h' => h' = m_adj h (4 * t + r) u.toInt64 (m_cost h (18 * (24 + 4 * i0 + r)) k (m_qty h na (nI t) r p + u.toInt64) - m_cost h (18 * (24 + 4 * i0 + r)) k (m_qty h na (nI t) r p))) := by
  have ep : (18 : Int32) * (24 + 4 * nI i0 + nI r) = nI (18 * (24 + 4 * i0 + r)) := by rw [show (18 : Int32) = nI 18 from rfl, show (24 : Int32) = nI 24 from rfl, show (4 : Int32) = nI 4 from rfl, pk_mul, nI_add, nI_add, pk_mul]
  have ek : (4 : Int32) * nI t + nI r = nI (4 * t + r) := by rw [show (4 : Int32) = nI 4 from rfl, pk_mul, nI_add]
  refine qM.of (plainFor_of_name (by decide)) (Nat.le_of_ble_eq_true rfl) ?_
  refine V_bipush (v := 18) 2 dX8_adjust_0 rfl (by decide) ?_
  refine V_bipush (v := 24) 4 dX8_adjust_2 rfl (by decide) ?_
  refine V_iconst (v := 4) 5 dX8_adjust_4 rfl (by decide) ?_
  refine V_aload_n 6 dX8_adjust_5 rfl rfl ?_
  refine V_iload_n 7 dX8_adjust_6 rfl rfl ?_
  refine V_iload_n 8 dX8_adjust_7 rfl rfl ?_
  refine V_cV2i 11 (ct_X8_invoiceOf hS hi0 h1 h2) cs_X8_190 rfl rfl (by decide) dX8_adjust_8 rfl ⟨Nat.le_of_ble_eq_true rfl, Nat.le_of_ble_eq_true rfl⟩ (Nat.le_of_ble_eq_true rfl) ⟨Nat.le_of_ble_eq_true rfl, Nat.le_of_ble_eq_true rfl⟩ (fun x h' hx hle => ?_)
  obtain ⟨rfl, rfl⟩ := hx
  refine V_imul 12 dX8_adjust_11 rfl ?_
  refine V_iadd 13 dX8_adjust_12 rfl ?_
  refine V_iload_n 14 dX8_adjust_13 rfl rfl ?_
  refine V_iadd 15 dX8_adjust_14 rfl ?_
  refine V_imul 16 dX8_adjust_15 rfl ?_
  rw [ep]
  refine V_istore 18 dX8_adjust_16 rfl (by decide) ?_
  refine V_aload_n 19 dX8_adjust_18 rfl rfl ?_
  refine V_iload_n 20 dX8_adjust_19 rfl rfl ?_
  refine V_iload_n 21 dX8_adjust_20 rfl rfl ?_
  refine V_iload_n 22 dX8_adjust_21 rfl rfl ?_
  refine V_cV3l 25 (ct_X8_quantity hS e hna hr hpp) cs_X8_193 rfl rfl (by decide) dX8_adjust_22 rfl ⟨Nat.le_of_ble_eq_true rfl, Nat.le_of_ble_eq_true rfl⟩ (Nat.le_of_ble_eq_true rfl) ⟨Nat.le_of_ble_eq_true rfl, Nat.le_of_ble_eq_true rfl⟩ (fun x h' hx hle => ?_)
  obtain ⟨rfl, rfl⟩ := hx
  refine V_lstore 27 dX8_adjust_25 rfl (by decide) ?_
  refine V_iconst (v := 4) 28 dX8_adjust_27 rfl (by decide) ?_
  refine V_iload_n 29 dX8_adjust_28 rfl rfl ?_
  refine V_imul 30 dX8_adjust_29 rfl ?_
  refine V_iload_n 31 dX8_adjust_30 rfl rfl ?_
  refine V_iadd 32 dX8_adjust_31 rfl ?_
  rw [ek]
  refine V_istore 34 dX8_adjust_32 rfl (by decide) ?_
  refine V_aload_n 35 dX8_adjust_34 rfl rfl ?_
  refine V_getR 38 8 24 fl_X8_152 dX8_adjust_35 rfl rfl (by decide) (Or.inr ⟨_, rfl⟩) (by decide) (sr_24 hS) ?_
  refine V_iload 40 dX8_adjust_38 rfl rfl ?_
  refine V_dup2 41 dX8_adjust_40 rfl ?_
  refine V_laldN 42 (_) dX8_adjust_41 rfl rfl (by decide) rfl (show _ < 24 by omega) (by decide) ?_
  refine V_iload 44 dX8_adjust_42 rfl rfl ?_
  refine V_i2l 45 dX8_adjust_44 rfl ?_
  refine V_ladd 46 dX8_adjust_45 rfl ?_
  refine V_lastN 47 (_) dX8_adjust_46 rfl rfl (by decide) rfl (show _ < 24 by omega) (by decide) ?_
  refine V_aload_n 48 dX8_adjust_47 rfl rfl ?_
  refine V_getR 51 8 25 fl_X8_155 dX8_adjust_48 rfl rfl (by decide) (Or.inr ⟨_, rfl⟩) (by decide) (sr_25 hS) ?_
  refine V_iload 53 dX8_adjust_51 rfl rfl ?_
  refine V_dup2 54 dX8_adjust_53 rfl ?_
  refine V_laldN 55 (_) dX8_adjust_54 rfl rfl (by decide) rfl (show _ < 24 by omega) (by decide) ?_
  refine V_aload_n 56 dX8_adjust_55 rfl rfl ?_
  refine V_iload 58 dX8_adjust_56 rfl rfl ?_
  refine V_lload 60 dX8_adjust_58 rfl rfl ?_
  refine V_iload 62 dX8_adjust_60 rfl rfl ?_
  refine V_i2l 63 dX8_adjust_62 rfl ?_
  refine V_ladd 64 dX8_adjust_63 rfl ?_
  refine V_cV2l 67 (ct_X8_costOf hS (by omega) hk hz he) cs_X8_179 rfl rfl (by decide) dX8_adjust_64 rfl ⟨Nat.le_of_ble_eq_true rfl, Nat.le_of_ble_eq_true rfl⟩ (Nat.le_of_ble_eq_true rfl) ⟨Nat.le_of_ble_eq_true rfl, Nat.le_of_ble_eq_true rfl⟩ (fun x h' hx hle => ?_)
  obtain ⟨rfl, rfl⟩ := hx
  refine V_aload_n 68 dX8_adjust_67 rfl rfl ?_
  refine V_iload 70 dX8_adjust_68 rfl rfl ?_
  refine V_lload 72 dX8_adjust_70 rfl rfl ?_
  refine V_cV2l 75 (ct_X8_costOf hS (by omega) hk hz he) cs_X8_179 rfl rfl (by decide) dX8_adjust_72 rfl ⟨Nat.le_of_ble_eq_true rfl, Nat.le_of_ble_eq_true rfl⟩ (Nat.le_of_ble_eq_true rfl) ⟨Nat.le_of_ble_eq_true rfl, Nat.le_of_ble_eq_true rfl⟩ (fun x h' hx hle => ?_)
  obtain ⟨rfl, rfl⟩ := hx
  refine V_lsub 76 dX8_adjust_75 rfl ?_
  refine V_ladd 77 dX8_adjust_76 rfl ?_
  refine V_lastN 78 (_) dX8_adjust_77 rfl rfl (by decide) rfl (show _ < 24 by omega) (by decide) ?_
  refine V_aload_n 79 dX8_adjust_78 rfl rfl ?_
  refine V_getR 82 8 26 fl_X8_158 dX8_adjust_79 rfl rfl (by decide) (Or.inr ⟨_, rfl⟩) (by decide) (sr_26 hS) ?_
  refine V_iload 84 dX8_adjust_82 rfl rfl ?_
  refine V_iconst (v := 1) 85 dX8_adjust_84 rfl (by decide) ?_
  refine V_zastN 86 (_) dX8_adjust_85 rfl rfl (by decide) rfl (show _ < 24 by omega) (by decide) rfl ?_
  refine V_vret dX8_adjust_86 rfl ⟨rfl, ?_⟩ (by first | exact Nat.le_refl _ | decide | omega) (by first | exact Nat.le_refl _ | decide | omega)
  rfl
end RJ
end
