section
-- ===== PART A: goes FIRST, ahead of the names: the tables' words, and 'selects' of the private methods out of them =====
/-- a private method of a class that the tables say can be made, by its rows of tables_1 -/
def lw_okq (q : MethodName × Nat) : Prop := (q.1.cls ≠ "java/lang/invoke/MethodHandle" ∧ q.1.cls ≠ "java/lang/invoke/VarHandle") ∧ Cond.instantiable q.1.cls q.2 ∈ tables_1 ∧ Cond.privateMethod q.1 ∈ tables_1 ∧ Cond.instanceMethod q.1 ∈ tables_1
theorem lw_p0 : lw_okq (⟨"ThingTrees", "find", "(I)LThingTrees$Thing;"⟩, 4) := ⟨⟨by decide +kernel, by decide +kernel⟩, List.mem_of_getElem? (i := 8) (by decide +kernel), List.mem_of_getElem? (i := 121) (by decide +kernel), List.mem_of_getElem? (i := 122) (by decide +kernel)⟩
theorem lw_p1 : lw_okq (⟨"ThingTrees", "moveNowhere", "(LThingTrees$Thing;)I"⟩, 4) := ⟨⟨by decide +kernel, by decide +kernel⟩, List.mem_of_getElem? (i := 8) (by decide +kernel), List.mem_of_getElem? (i := 133) (by decide +kernel), List.mem_of_getElem? (i := 134) (by decide +kernel)⟩
theorem lw_p2 : lw_okq (⟨"ThingTrees", "comeNowhere", "(LThingTrees$Thing;)V"⟩, 4) := ⟨⟨by decide +kernel, by decide +kernel⟩, List.mem_of_getElem? (i := 8) (by decide +kernel), List.mem_of_getElem? (i := 137) (by decide +kernel), List.mem_of_getElem? (i := 138) (by decide +kernel)⟩
theorem lw_p3 : lw_okq (⟨"ThingTrees", "moveTo", "(LThingTrees$Thing;LThingTrees$Thing;I)I"⟩, 4) := ⟨⟨by decide +kernel, by decide +kernel⟩, List.mem_of_getElem? (i := 8) (by decide +kernel), List.mem_of_getElem? (i := 155) (by decide +kernel), List.mem_of_getElem? (i := 156) (by decide +kernel)⟩
theorem lw_p4 : lw_okq (⟨"ThingTrees", "comeUnlessFull", "(LThingTrees$Thing;LThingTrees$Thing;I)I"⟩, 4) := ⟨⟨by decide +kernel, by decide +kernel⟩, List.mem_of_getElem? (i := 8) (by decide +kernel), List.mem_of_getElem? (i := 175) (by decide +kernel), List.mem_of_getElem? (i := 176) (by decide +kernel)⟩
theorem lw_p5 : lw_okq (⟨"ThingTrees", "come", "(LThingTrees$Thing;LThingTrees$Thing;I)V"⟩, 4) := ⟨⟨by decide +kernel, by decide +kernel⟩, List.mem_of_getElem? (i := 8) (by decide +kernel), List.mem_of_getElem? (i := 183) (by decide +kernel), List.mem_of_getElem? (i := 184) (by decide +kernel)⟩
theorem lw_p6 : lw_okq (⟨"ThingTrees", "fillWalk", "(LThingTrees$Thing;)I"⟩, 4) := ⟨⟨by decide +kernel, by decide +kernel⟩, List.mem_of_getElem? (i := 8) (by decide +kernel), List.mem_of_getElem? (i := 286) (by decide +kernel), List.mem_of_getElem? (i := 287) (by decide +kernel)⟩
theorem lw_p7 : lw_okq (⟨"ThingTrees", "discard", "(LThingTrees$Thing;)V"⟩, 4) := ⟨⟨by decide +kernel, by decide +kernel⟩, List.mem_of_getElem? (i := 8) (by decide +kernel), List.mem_of_getElem? (i := 294) (by decide +kernel), List.mem_of_getElem? (i := 295) (by decide +kernel)⟩
theorem lw_p8 : lw_okq (⟨"ThingTrees", "isHolderGone", "(LThingTrees$Thing;)Z"⟩, 4) := ⟨⟨by decide +kernel, by decide +kernel⟩, List.mem_of_getElem? (i := 8) (by decide +kernel), List.mem_of_getElem? (i := 298) (by decide +kernel), List.mem_of_getElem? (i := 299) (by decide +kernel)⟩
theorem lw_p9 : lw_okq (⟨"ThingTrees", "loseHeld", "(LThingTrees$Thing;)I"⟩, 4) := ⟨⟨by decide +kernel, by decide +kernel⟩, List.mem_of_getElem? (i := 8) (by decide +kernel), List.mem_of_getElem? (i := 302) (by decide +kernel), List.mem_of_getElem? (i := 303) (by decide +kernel)⟩
theorem lw_p10 : lw_okq (⟨"ThingTrees", "hasLight", "(LThingTrees$Thing;)Z"⟩, 4) := ⟨⟨by decide +kernel, by decide +kernel⟩, List.mem_of_getElem? (i := 8) (by decide +kernel), List.mem_of_getElem? (i := 317) (by decide +kernel), List.mem_of_getElem? (i := 318) (by decide +kernel)⟩
theorem lw_p11 : lw_okq (⟨"ThingTrees", "countThings", "()I"⟩, 4) := ⟨⟨by decide +kernel, by decide +kernel⟩, List.mem_of_getElem? (i := 8) (by decide +kernel), List.mem_of_getElem? (i := 369) (by decide +kernel), List.mem_of_getElem? (i := 370) (by decide +kernel)⟩
theorem lw_p12 : lw_okq (⟨"ThingTrees", "countNowhere", "()I"⟩, 4) := ⟨⟨by decide +kernel, by decide +kernel⟩, List.mem_of_getElem? (i := 8) (by decide +kernel), List.mem_of_getElem? (i := 373) (by decide +kernel), List.mem_of_getElem? (i := 374) (by decide +kernel)⟩
theorem lw_p13 : lw_okq (⟨"ThingTreesModel", "is", "(I)Z"⟩, 19) := ⟨⟨by decide +kernel, by decide +kernel⟩, List.mem_of_getElem? (i := 378) (by decide +kernel), List.mem_of_getElem? (i := 455) (by decide +kernel), List.mem_of_getElem? (i := 456) (by decide +kernel)⟩
theorem lw_p14 : lw_okq (⟨"ThingTreesModel", "at", "(I)I"⟩, 19) := ⟨⟨by decide +kernel, by decide +kernel⟩, List.mem_of_getElem? (i := 378) (by decide +kernel), List.mem_of_getElem? (i := 459) (by decide +kernel), List.mem_of_getElem? (i := 460) (by decide +kernel)⟩
theorem lw_p15 : lw_okq (⟨"ThingTreesModel", "isOf", "(II)Z"⟩, 19) := ⟨⟨by decide +kernel, by decide +kernel⟩, List.mem_of_getElem? (i := 378) (by decide +kernel), List.mem_of_getElem? (i := 463) (by decide +kernel), List.mem_of_getElem? (i := 464) (by decide +kernel)⟩
def lw_privs_1 : List (MethodName × Nat) := [(⟨"ThingTrees", "find", "(I)LThingTrees$Thing;"⟩, 4), (⟨"ThingTrees", "moveNowhere", "(LThingTrees$Thing;)I"⟩, 4), (⟨"ThingTrees", "comeNowhere", "(LThingTrees$Thing;)V"⟩, 4), (⟨"ThingTrees", "moveTo", "(LThingTrees$Thing;LThingTrees$Thing;I)I"⟩, 4), (⟨"ThingTrees", "comeUnlessFull", "(LThingTrees$Thing;LThingTrees$Thing;I)I"⟩, 4), (⟨"ThingTrees", "come", "(LThingTrees$Thing;LThingTrees$Thing;I)V"⟩, 4), (⟨"ThingTrees", "fillWalk", "(LThingTrees$Thing;)I"⟩, 4), (⟨"ThingTrees", "discard", "(LThingTrees$Thing;)V"⟩, 4), (⟨"ThingTrees", "isHolderGone", "(LThingTrees$Thing;)Z"⟩, 4), (⟨"ThingTrees", "loseHeld", "(LThingTrees$Thing;)I"⟩, 4), (⟨"ThingTrees", "hasLight", "(LThingTrees$Thing;)Z"⟩, 4), (⟨"ThingTrees", "countThings", "()I"⟩, 4), (⟨"ThingTrees", "countNowhere", "()I"⟩, 4), (⟨"ThingTreesModel", "is", "(I)Z"⟩, 19), (⟨"ThingTreesModel", "at", "(I)I"⟩, 19), (⟨"ThingTreesModel", "isOf", "(II)Z"⟩, 19)]
theorem lw_r1 : ∀ q ∈ lw_privs_1, lw_okq q := List.forall_mem_cons.mpr ⟨lw_p0, List.forall_mem_cons.mpr ⟨lw_p1, List.forall_mem_cons.mpr ⟨lw_p2, List.forall_mem_cons.mpr ⟨lw_p3, List.forall_mem_cons.mpr ⟨lw_p4, List.forall_mem_cons.mpr ⟨lw_p5, List.forall_mem_cons.mpr ⟨lw_p6, List.forall_mem_cons.mpr ⟨lw_p7, List.forall_mem_cons.mpr ⟨lw_p8, List.forall_mem_cons.mpr ⟨lw_p9, List.forall_mem_cons.mpr ⟨lw_p10, List.forall_mem_cons.mpr ⟨lw_p11, List.forall_mem_cons.mpr ⟨lw_p12, List.forall_mem_cons.mpr ⟨lw_p13, List.forall_mem_cons.mpr ⟨lw_p14, List.forall_mem_cons.mpr ⟨lw_p15, fun _ h => absurd h List.not_mem_nil⟩⟩⟩⟩⟩⟩⟩⟩⟩⟩⟩⟩⟩⟩⟩⟩
theorem lw_p16 : lw_okq (⟨"ThingTreesModel", "isPart", "(I)Z"⟩, 19) := ⟨⟨by decide +kernel, by decide +kernel⟩, List.mem_of_getElem? (i := 378) (by decide +kernel), List.mem_of_getElem? (i := 467) (by decide +kernel), List.mem_of_getElem? (i := 468) (by decide +kernel)⟩
theorem lw_p17 : lw_okq (⟨"ThingTreesModel", "over", "(I)I"⟩, 19) := ⟨⟨by decide +kernel, by decide +kernel⟩, List.mem_of_getElem? (i := 378) (by decide +kernel), List.mem_of_getElem? (i := 471) (by decide +kernel), List.mem_of_getElem? (i := 472) (by decide +kernel)⟩
theorem lw_p18 : lw_okq (⟨"ThingTreesModel", "come", "(III)V"⟩, 19) := ⟨⟨by decide +kernel, by decide +kernel⟩, List.mem_of_getElem? (i := 378) (by decide +kernel), List.mem_of_getElem? (i := 475) (by decide +kernel), List.mem_of_getElem? (i := 476) (by decide +kernel)⟩
theorem lw_p19 : lw_okq (⟨"ThingTreesModel", "endOf", "(I)I"⟩, 19) := ⟨⟨by decide +kernel, by decide +kernel⟩, List.mem_of_getElem? (i := 378) (by decide +kernel), List.mem_of_getElem? (i := 479) (by decide +kernel), List.mem_of_getElem? (i := 480) (by decide +kernel)⟩
theorem lw_p20 : lw_okq (⟨"ThingTreesModel", "close", "(II)V"⟩, 19) := ⟨⟨by decide +kernel, by decide +kernel⟩, List.mem_of_getElem? (i := 378) (by decide +kernel), List.mem_of_getElem? (i := 483) (by decide +kernel), List.mem_of_getElem? (i := 484) (by decide +kernel)⟩
theorem lw_p21 : lw_okq (⟨"ThingTreesModel", "holds", "(II)Z"⟩, 19) := ⟨⟨by decide +kernel, by decide +kernel⟩, List.mem_of_getElem? (i := 378) (by decide +kernel), List.mem_of_getElem? (i := 487) (by decide +kernel), List.mem_of_getElem? (i := 488) (by decide +kernel)⟩
theorem lw_p22 : lw_okq (⟨"ThingTreesModel", "isHeld", "(III)Z"⟩, 19) := ⟨⟨by decide +kernel, by decide +kernel⟩, List.mem_of_getElem? (i := 378) (by decide +kernel), List.mem_of_getElem? (i := 491) (by decide +kernel), List.mem_of_getElem? (i := 492) (by decide +kernel)⟩
theorem lw_p23 : lw_okq (⟨"ThingTreesModel", "has", "(II)Z"⟩, 19) := ⟨⟨by decide +kernel, by decide +kernel⟩, List.mem_of_getElem? (i := 378) (by decide +kernel), List.mem_of_getElem? (i := 495) (by decide +kernel), List.mem_of_getElem? (i := 496) (by decide +kernel)⟩
theorem lw_p24 : lw_okq (⟨"ThingTreesModel", "isFull", "(I)Z"⟩, 19) := ⟨⟨by decide +kernel, by decide +kernel⟩, List.mem_of_getElem? (i := 378) (by decide +kernel), List.mem_of_getElem? (i := 499) (by decide +kernel), List.mem_of_getElem? (i := 500) (by decide +kernel)⟩
theorem lw_p25 : lw_okq (⟨"ThingTreesModel", "isStuff", "(I)Z"⟩, 19) := ⟨⟨by decide +kernel, by decide +kernel⟩, List.mem_of_getElem? (i := 378) (by decide +kernel), List.mem_of_getElem? (i := 531) (by decide +kernel), List.mem_of_getElem? (i := 532) (by decide +kernel)⟩
theorem lw_p26 : lw_okq (⟨"ThingTreesModel", "route", "(IIZ)I"⟩, 19) := ⟨⟨by decide +kernel, by decide +kernel⟩, List.mem_of_getElem? (i := 378) (by decide +kernel), List.mem_of_getElem? (i := 535) (by decide +kernel), List.mem_of_getElem? (i := 536) (by decide +kernel)⟩
theorem lw_p27 : lw_okq (⟨"ThingTreesModel", "top", "(I)I"⟩, 19) := ⟨⟨by decide +kernel, by decide +kernel⟩, List.mem_of_getElem? (i := 378) (by decide +kernel), List.mem_of_getElem? (i := 539) (by decide +kernel), List.mem_of_getElem? (i := 540) (by decide +kernel)⟩
theorem lw_p28 : lw_okq (⟨"ThingTreesModel", "isBar", "(IIIZ)Z"⟩, 19) := ⟨⟨by decide +kernel, by decide +kernel⟩, List.mem_of_getElem? (i := 378) (by decide +kernel), List.mem_of_getElem? (i := 543) (by decide +kernel), List.mem_of_getElem? (i := 544) (by decide +kernel)⟩
theorem lw_p29 : lw_okq (⟨"ThingTreesModel", "hasLight", "(I)Z"⟩, 19) := ⟨⟨by decide +kernel, by decide +kernel⟩, List.mem_of_getElem? (i := 378) (by decide +kernel), List.mem_of_getElem? (i := 583) (by decide +kernel), List.mem_of_getElem? (i := 584) (by decide +kernel)⟩
def lw_privs_2 : List (MethodName × Nat) := [(⟨"ThingTreesModel", "isPart", "(I)Z"⟩, 19), (⟨"ThingTreesModel", "over", "(I)I"⟩, 19), (⟨"ThingTreesModel", "come", "(III)V"⟩, 19), (⟨"ThingTreesModel", "endOf", "(I)I"⟩, 19), (⟨"ThingTreesModel", "close", "(II)V"⟩, 19), (⟨"ThingTreesModel", "holds", "(II)Z"⟩, 19), (⟨"ThingTreesModel", "isHeld", "(III)Z"⟩, 19), (⟨"ThingTreesModel", "has", "(II)Z"⟩, 19), (⟨"ThingTreesModel", "isFull", "(I)Z"⟩, 19), (⟨"ThingTreesModel", "isStuff", "(I)Z"⟩, 19), (⟨"ThingTreesModel", "route", "(IIZ)I"⟩, 19), (⟨"ThingTreesModel", "top", "(I)I"⟩, 19), (⟨"ThingTreesModel", "isBar", "(IIIZ)Z"⟩, 19), (⟨"ThingTreesModel", "hasLight", "(I)Z"⟩, 19)]
theorem lw_r2 : ∀ q ∈ lw_privs_2, lw_okq q := List.forall_mem_cons.mpr ⟨lw_p16, List.forall_mem_cons.mpr ⟨lw_p17, List.forall_mem_cons.mpr ⟨lw_p18, List.forall_mem_cons.mpr ⟨lw_p19, List.forall_mem_cons.mpr ⟨lw_p20, List.forall_mem_cons.mpr ⟨lw_p21, List.forall_mem_cons.mpr ⟨lw_p22, List.forall_mem_cons.mpr ⟨lw_p23, List.forall_mem_cons.mpr ⟨lw_p24, List.forall_mem_cons.mpr ⟨lw_p25, List.forall_mem_cons.mpr ⟨lw_p26, List.forall_mem_cons.mpr ⟨lw_p27, List.forall_mem_cons.mpr ⟨lw_p28, List.forall_mem_cons.mpr ⟨lw_p29, fun _ h => absurd h List.not_mem_nil⟩⟩⟩⟩⟩⟩⟩⟩⟩⟩⟩⟩⟩⟩
def lw_privs : List (MethodName × Nat) := lw_privs_1 ++ (lw_privs_2)
def lw_tbl : List Cond := k2_sels lw_privs ++ tables_1
theorem lw_privs_ok : ∀ q ∈ lw_privs, lw_okq q := by
  show ∀ q ∈ lw_privs_1 ++ (lw_privs_2), lw_okq q
  exact List.forall_mem_append.mpr ⟨lw_r1, lw_r2⟩
end
section
-- THE TABLES, by program out of the listing: kinds of cells, methods, instructions
section TAB
-- kinds: 1 to 4 the objects ThingTrees, ThingTrees$Thing, ThingTrees$Changes, ThingTreesModel; 10, 11, 14 arrays of the class (walked, cells, things); 15 the script; 20 to 23 arrays of the reference
def am_C0 : String := "ThingTrees"
def am_T0 : u_T := fun k => match k with
  | 0 => ("ThingTrees", "things", "[LThingTrees$Thing;", true)
  | 1 => ("ThingTrees", "changes", "LThingTrees$Changes;", true)
  | 2 => ("ThingTrees", "walked", "[I", true)
  | _ => ("ThingTrees", "made", "I", false)
def am_C1 : String := "ThingTrees$Thing"
def am_T1 : u_T := fun k => match k with
  | 0 => ("ThingTrees$Thing", "number", "I", true)
  | 1 => ("ThingTrees$Thing", "kind", "I", true)
  | 2 => ("ThingTrees$Thing", "most", "I", true)
  | 3 => ("ThingTrees$Thing", "holder", "LThingTrees$Thing;", false)
  | 4 => ("ThingTrees$Thing", "way", "I", false)
  | 5 => ("ThingTrees$Thing", "first", "LThingTrees$Thing;", false)
  | 6 => ("ThingTrees$Thing", "last", "LThingTrees$Thing;", false)
  | 7 => ("ThingTrees$Thing", "previous", "LThingTrees$Thing;", false)
  | 8 => ("ThingTrees$Thing", "next", "LThingTrees$Thing;", false)
  | 9 => ("ThingTrees$Thing", "closed", "Z", false)
  | 10 => ("ThingTrees$Thing", "seenThrough", "Z", false)
  | 11 => ("ThingTrees$Thing", "shines", "Z", false)
  | _ => ("ThingTrees$Thing", "rooms", "I", false)
def am_C2 : String := "ThingTrees$Changes"
def am_T2 : u_T := fun k => match k with
  | 0 => ("ThingTrees$Changes", "cells", "[I", true)
  | _ => ("ThingTrees$Changes", "total", "I", false)
def am_C3 : String := "ThingTreesModel"
def am_T3 : u_T := fun k => match k with
  | 0 => ("ThingTreesModel", "thrown", "I", false)
  | 1 => ("ThingTreesModel", "made", "I", false)
  | 2 => ("ThingTreesModel", "row", "[I", false)
  | 3 => ("ThingTreesModel", "deep", "[I", false)
  | 4 => ("ThingTreesModel", "size", "I", false)
  | 5 => ("ThingTreesModel", "kind", "[I", false)
  | 6 => ("ThingTreesModel", "most", "[I", false)
  | 7 => ("ThingTreesModel", "ways", "[I", false)
  | 8 => ("ThingTreesModel", "isClosed", "[Z", false)
  | 9 => ("ThingTreesModel", "isClear", "[Z", false)
  | 10 => ("ThingTreesModel", "isDark", "[Z", false)
  | 11 => ("ThingTreesModel", "isGlowing", "[Z", false)
  | 12 => ("ThingTreesModel", "rooms", "[I", false)
  | 13 => ("ThingTreesModel", "isGone", "[Z", false)
  | 14 => ("ThingTreesModel", "changes", "[I", false)
  | 15 => ("ThingTreesModel", "changed", "I", false)
  | 16 => ("ThingTreesModel", "cutRow", "[I", false)
  | 17 => ("ThingTreesModel", "cutDeep", "[I", false)
  | _ => ("ThingTreesModel", "path", "[I", false)
def am_cl : List vw_C := [(am_C0, am_T0, 4), (am_C1, am_T1, 13), (am_C2, am_T2, 2), (am_C3, am_T3, 19)]
def am_ci (t : Nat) : Nat := match t with
  | 1 => 0
  | 2 => 1
  | 3 => 2
  | 4 => 3
  | _ => 99
def am_nf (t : Nat) : Nat := match t with
  | 1 => 4
  | 2 => 13
  | 3 => 2
  | 4 => 19
  | _ => 0
def am_tf (c k : Nat) : FieldType := match c, k with
  | 0, 0 => .array (.object "ThingTrees$Thing")
  | 0, 1 => .object "ThingTrees$Changes"
  | 0, 2 => .array .int
  | 0, 3 => .int
  | 1, 0 => .int
  | 1, 1 => .int
  | 1, 2 => .int
  | 1, 3 => .object "ThingTrees$Thing"
  | 1, 4 => .int
  | 1, 5 => .object "ThingTrees$Thing"
  | 1, 6 => .object "ThingTrees$Thing"
  | 1, 7 => .object "ThingTrees$Thing"
  | 1, 8 => .object "ThingTrees$Thing"
  | 1, 9 => .boolean
  | 1, 10 => .boolean
  | 1, 11 => .boolean
  | 1, 12 => .int
  | 2, 0 => .array .int
  | 2, 1 => .int
  | 3, 0 => .int
  | 3, 1 => .int
  | 3, 2 => .array .int
  | 3, 3 => .array .int
  | 3, 4 => .int
  | 3, 5 => .array .int
  | 3, 6 => .array .int
  | 3, 7 => .array .int
  | 3, 8 => .array .boolean
  | 3, 9 => .array .boolean
  | 3, 10 => .array .boolean
  | 3, 11 => .array .boolean
  | 3, 12 => .array .int
  | 3, 13 => .array .boolean
  | 3, 14 => .array .int
  | 3, 15 => .int
  | 3, 16 => .array .int
  | 3, 17 => .array .int
  | 3, 18 => .array .int
  | _, _ => .int
def am_ft (t k : Nat) : Nat := match am_tf (am_ci t) k with
  | .int => 0
  | .boolean => 1
  | _ => 2
def am_isr (t : FieldType) : Bool := match t with
  | .object _ => true
  | .array _ => true
  | _ => false
def am_fr (t k : Nat) : Nat := match t, k with
  | 1, 0 => 14
  | 1, 1 => 3
  | 1, 2 => 10
  | 2, 3 => 2
  | 2, 5 => 2
  | 2, 6 => 2
  | 2, 7 => 2
  | 2, 8 => 2
  | 3, 0 => 11
  | 4, 2 => 20
  | 4, 3 => 20
  | 4, 5 => 20
  | 4, 6 => 20
  | 4, 7 => 20
  | 4, 8 => 23
  | 4, 9 => 23
  | 4, 10 => 23
  | 4, 11 => 23
  | 4, 12 => 20
  | 4, 13 => 23
  | 4, 14 => 21
  | 4, 16 => 20
  | 4, 17 => 20
  | 4, 18 => 22
  | 14, _ => 2
  | _, _ => 0
def am_ak (t : Nat) : Nat := match t with
  | 10 => 1
  | 11 => 1
  | 14 => 3
  | 15 => 4
  | 20 => 1
  | 21 => 1
  | 22 => 1
  | 23 => 2
  | _ => 0
def am_ln (t L : Nat) : Nat := match t with
  | 10 => 20
  | 11 => 120
  | 14 => 20
  | 20 => 20
  | 21 => 120
  | 22 => 21
  | 23 => 20
  | 15 => L
  | _ => 0
def am_ty (t : Nat) : FieldType := match t with
  | 10 => .int
  | 11 => .int
  | 14 => .object am_C1
  | 15 => .int
  | 20 => .int
  | 21 => .int
  | 22 => .int
  | 23 => .boolean
  | _ => .int
def am_at (t : Nat) : ArrayType := match t with
  | 23 => .boolean
  | _ => .int
def am_host : String := "ThingTrees"
def am_nw : List (String × Nat × MethodName × String) := [("ThingTrees", 17, ⟨"ThingTrees$Changes", "<init>", "()V"⟩, am_host)]
abbrev am_I : Type := Nat × Nat × Nat × Nat × Nat × Nat
def am_sw (x : Nat) : Bool × Nat × Int × Int × Int × List Int × List (Int × Int) × Nat := match x with
  | 0 => (true, 1, 45, 0, 2, [27, 32, 40], [], 27)
  | 1 => (true, 6, 75, 0, 5, [38, 75, 38, 48, 59, 38], [], 38)
  | 2 => (false, 1, 63, 0, 0, [], [(2, 27), (3, 49)], 27)
  | 3 => (true, 1, 114, 0, 4, [35, 64, 78, 78, 92], [], 35)
  | 4 => (true, 32, 1097, 0, 28, [132, 143, 176, 219, 252, 301, 350, 399, 448, 507, 540, 573, 616, 649, 682, 705, 738, 761, 794, 827, 850, 873, 896, 929, 952, 985, 1008, 1041, 1074], [], 132)
  | _ => (true, 0, 0, 0, 0, [], [], 0)
def am_swt (x : Nat) (v : Int32) : Nat := match am_sw x with
  | (true, pc, d, l, h, os, _, _) => ((pc : Int) + (if v.toInt < l ∨ h < v.toInt then d else os.getD (v.toInt - l).toNat 0)).toNat
  | (false, pc, d, _, _, _, ps, _) => ((pc : Int) + Op.lookupswitch.offset ps d v.toInt).toNat
def am_N : Nat := 119
abbrev yX_new : Nat := 0
abbrev yX_clear : Nat := 1
abbrev yX_thing : Nat := 2
abbrev yX_move : Nat := 3
abbrev yX_part : Nat := 4
abbrev yX_open : Nat := 5
abbrev yX_clears : Nat := 6
abbrev yX_lit : Nat := 7
abbrev yX_glows : Nat := 8
abbrev yX_spread : Nat := 9
abbrev yX_take : Nat := 10
abbrev yX_drop : Nat := 11
abbrev yX_put : Nat := 12
abbrev yX_wear : Nat := 13
abbrev yX_enter : Nat := 14
abbrev yX_leave : Nat := 15
abbrev yX_go : Nat := 16
abbrev yX_lose : Nat := 17
abbrev yX_touches : Nat := 18
abbrev yX_sees : Nat := 19
abbrev yX_light : Nat := 20
abbrev yX_holder : Nat := 21
abbrev yX_way : Nat := 22
abbrev yX_child : Nat := 23
abbrev yX_count : Nat := 24
abbrev yX_walk : Nat := 25
abbrev yX_root : Nat := 26
abbrev yX_ring : Nat := 27
abbrev yX_row : Nat := 28
abbrev yX_told : Nat := 29
abbrev yX_find : Nat := 30
abbrev yX_numberOf : Nat := 31
abbrev yX_moveNowhere : Nat := 32
abbrev yX_moveTo : Nat := 33
abbrev yX_comeUnlessFull : Nat := 34
abbrev yX_come : Nat := 35
abbrev yX_comeNowhere : Nat := 36
abbrev yX_shine : Nat := 37
abbrev yX_isHolderGone : Nat := 38
abbrev yX_loseHeld : Nat := 39
abbrev yX_discard : Nat := 40
abbrev yX_hasLight : Nat := 41
abbrev yX_fillWalk : Nat := 42
abbrev yX_countThings : Nat := 43
abbrev yX_countNowhere : Nat := 44
abbrev yM_new : Nat := 45
abbrev yM_clear : Nat := 46
abbrev yM_at : Nat := 47
abbrev yM_is : Nat := 48
abbrev yM_isOf : Nat := 49
abbrev yM_endOf : Nat := 50
abbrev yM_over : Nat := 51
abbrev yM_top : Nat := 52
abbrev yM_has : Nat := 53
abbrev yM_isPart : Nat := 54
abbrev yM_isHeld : Nat := 55
abbrev yM_isFull : Nat := 56
abbrev yM_come : Nat := 57
abbrev yM_close : Nat := 58
abbrev yM_isBar : Nat := 59
abbrev yM_route : Nat := 60
abbrev yM_hasLight : Nat := 61
abbrev yM_thing : Nat := 62
abbrev yM_holds : Nat := 63
abbrev yM_move : Nat := 64
abbrev yM_part : Nat := 65
abbrev yM_open : Nat := 66
abbrev yM_clears : Nat := 67
abbrev yM_lit : Nat := 68
abbrev yM_glows : Nat := 69
abbrev yM_spread : Nat := 70
abbrev yM_isStuff : Nat := 71
abbrev yM_take : Nat := 72
abbrev yM_drop : Nat := 73
abbrev yM_put : Nat := 74
abbrev yM_wear : Nat := 75
abbrev yM_enter : Nat := 76
abbrev yM_leave : Nat := 77
abbrev yM_go : Nat := 78
abbrev yM_lose : Nat := 79
abbrev yM_touches : Nat := 80
abbrev yM_sees : Nat := 81
abbrev yM_light : Nat := 82
abbrev yM_holder : Nat := 83
abbrev yM_way : Nat := 84
abbrev yM_child : Nat := 85
abbrev yM_count : Nat := 86
abbrev yM_walk : Nat := 87
abbrev yM_root : Nat := 88
abbrev yM_ring : Nat := 89
abbrev yM_row : Nat := 90
abbrev yM_told : Nat := 91
abbrev yC_new : Nat := 92
abbrev yC_forget : Nat := 93
abbrev yC_note : Nat := 94
abbrev yC_column : Nat := 95
abbrev yR_forTouch : Nat := 96
abbrev yR_forSight : Nat := 97
abbrev yR_forTouchInside : Nat := 98
abbrev yR_follow : Nat := 99
abbrev yR_turnOf : Nat := 100
abbrev yR_firstBarUp : Nat := 101
abbrev yR_firstBarDown : Nat := 102
abbrev yR_isBarred : Nat := 103
abbrev yT_new : Nat := 104
abbrev yT_canHaveHolder : Nat := 105
abbrev yT_isLoose : Nat := 106
abbrev yT_canBeEntered : Nat := 107
abbrev yT_canBeHeldBy : Nat := 108
abbrev yT_holdsBy : Nat := 109
abbrev yT_isHeldBy : Nat := 110
abbrev yT_isSpreadTo : Nat := 111
abbrev yT_isFull : Nat := 112
abbrev yT_isWithin : Nat := 113
abbrev yT_topmost : Nat := 114
abbrev yT_nextInWalk : Nat := 115
abbrev yT_link : Nat := 116
abbrev yT_unlink : Nat := 117
abbrev yJ_floorMod : Nat := 118
abbrev yL_law : Nat := 119
def am_mt : List (MethodName × ByteArray × Nat × Option FieldType × Nat) := [
  (⟨"ThingTrees", "<init>", "()V"⟩, prog_1_method_1_code, 1, none, 2),
  (⟨"ThingTrees", "clear", "()V"⟩, prog_1_method_2_code, 2, none, 2),
  (⟨"ThingTrees", "thing", "(II)I"⟩, prog_1_method_3_code, 4, (some .int), 2),
  (⟨"ThingTrees", "move", "(III)I"⟩, prog_1_method_4_code, 6, (some .int), 6),
  (⟨"ThingTrees", "part", "(II)I"⟩, prog_1_method_5_code, 5, (some .int), 4),
  (⟨"ThingTrees", "open", "(IZ)I"⟩, prog_1_method_6_code, 4, (some .int), 2),
  (⟨"ThingTrees", "clears", "(IZ)I"⟩, prog_1_method_7_code, 4, (some .int), 2),
  (⟨"ThingTrees", "lit", "(IZ)I"⟩, prog_1_method_8_code, 4, (some .int), 2),
  (⟨"ThingTrees", "glows", "(IZ)I"⟩, prog_1_method_9_code, 4, (some .int), 2),
  (⟨"ThingTrees", "spread", "(IIZ)I"⟩, prog_1_method_10_code, 6, (some .int), 2),
  (⟨"ThingTrees", "take", "(II)I"⟩, prog_1_method_11_code, 6, (some .int), 5),
  (⟨"ThingTrees", "drop", "(II)I"⟩, prog_1_method_12_code, 6, (some .int), 4),
  (⟨"ThingTrees", "put", "(III)I"⟩, prog_1_method_13_code, 8, (some .int), 6),
  (⟨"ThingTrees", "wear", "(II)I"⟩, prog_1_method_14_code, 6, (some .int), 4),
  (⟨"ThingTrees", "enter", "(II)I"⟩, prog_1_method_15_code, 6, (some .int), 6),
  (⟨"ThingTrees", "leave", "(I)I"⟩, prog_1_method_16_code, 5, (some .int), 5),
  (⟨"ThingTrees", "go", "(II)I"⟩, prog_1_method_17_code, 7, (some .int), 5),
  (⟨"ThingTrees", "lose", "(I)I"⟩, prog_1_method_18_code, 7, (some .int), 5),
  (⟨"ThingTrees", "touches", "(II)I"⟩, prog_1_method_19_code, 5, (some .int), 5),
  (⟨"ThingTrees", "sees", "(II)I"⟩, prog_1_method_20_code, 6, (some .int), 6),
  (⟨"ThingTrees", "light", "(I)I"⟩, prog_1_method_21_code, 3, (some .int), 6),
  (⟨"ThingTrees", "holder", "(I)I"⟩, prog_1_method_22_code, 3, (some .int), 2),
  (⟨"ThingTrees", "way", "(I)I"⟩, prog_1_method_23_code, 3, (some .int), 2),
  (⟨"ThingTrees", "child", "(II)I"⟩, prog_1_method_24_code, 6, (some .int), 2),
  (⟨"ThingTrees", "count", "(I)I"⟩, prog_1_method_25_code, 3, (some .int), 3),
  (⟨"ThingTrees", "walk", "(II)I"⟩, prog_1_method_26_code, 5, (some .int), 3),
  (⟨"ThingTrees", "root", "(I)I"⟩, prog_1_method_27_code, 3, (some .int), 2),
  (⟨"ThingTrees", "ring", "(II)I"⟩, prog_1_method_28_code, 5, (some .int), 2),
  (⟨"ThingTrees", "row", "(II)I"⟩, prog_1_method_29_code, 3, (some .int), 3),
  (⟨"ThingTrees", "told", "(I)I"⟩, prog_1_method_30_code, 2, (some .int), 3),
  (⟨"ThingTrees", "find", "(I)LThingTrees$Thing;"⟩, prog_1_method_31_code, 2, (some (.object "ThingTrees$Thing")), 1),
  (⟨"ThingTrees", "numberOf", "(LThingTrees$Thing;)I"⟩, prog_1_method_32_code, 1, (some .int), 1),
  (⟨"ThingTrees", "moveNowhere", "(LThingTrees$Thing;)I"⟩, prog_1_method_33_code, 2, (some .int), 4),
  (⟨"ThingTrees", "moveTo", "(LThingTrees$Thing;LThingTrees$Thing;I)I"⟩, prog_1_method_34_code, 4, (some .int), 5),
  (⟨"ThingTrees", "comeUnlessFull", "(LThingTrees$Thing;LThingTrees$Thing;I)I"⟩, prog_1_method_35_code, 4, (some .int), 4),
  (⟨"ThingTrees", "come", "(LThingTrees$Thing;LThingTrees$Thing;I)V"⟩, prog_1_method_36_code, 4, none, 3),
  (⟨"ThingTrees", "comeNowhere", "(LThingTrees$Thing;)V"⟩, prog_1_method_37_code, 2, none, 3),
  (⟨"ThingTrees", "shine", "(LThingTrees$Thing;Z)I"⟩, prog_1_method_38_code, 2, (some .int), 1),
  (⟨"ThingTrees", "isHolderGone", "(LThingTrees$Thing;)Z"⟩, prog_1_method_39_code, 2, (some .boolean), 2),
  (⟨"ThingTrees", "loseHeld", "(LThingTrees$Thing;)I"⟩, prog_1_method_40_code, 2, (some .int), 4),
  (⟨"ThingTrees", "discard", "(LThingTrees$Thing;)V"⟩, prog_1_method_41_code, 2, none, 1),
  (⟨"ThingTrees", "hasLight", "(LThingTrees$Thing;)Z"⟩, prog_1_method_42_code, 6, (some .boolean), 5),
  (⟨"ThingTrees", "fillWalk", "(LThingTrees$Thing;)I"⟩, prog_1_method_43_code, 4, (some .int), 2),
  (⟨"ThingTrees", "countThings", "()I"⟩, prog_1_method_44_code, 6, (some .int), 1),
  (⟨"ThingTrees", "countNowhere", "()I"⟩, prog_1_method_45_code, 6, (some .int), 2),
  (⟨"ThingTreesModel", "<init>", "()V"⟩, prog_6_method_1_code, 1, none, 1),
  (⟨"ThingTreesModel", "clear", "()V"⟩, prog_6_method_3_code, 1, none, 1),
  (⟨"ThingTreesModel", "at", "(I)I"⟩, prog_6_method_4_code, 3, (some .int), 1),
  (⟨"ThingTreesModel", "is", "(I)Z"⟩, prog_6_method_5_code, 2, (some .boolean), 2),
  (⟨"ThingTreesModel", "isOf", "(II)Z"⟩, prog_6_method_6_code, 3, (some .boolean), 1),
  (⟨"ThingTreesModel", "endOf", "(I)I"⟩, prog_6_method_7_code, 3, (some .int), 1),
  (⟨"ThingTreesModel", "over", "(I)I"⟩, prog_6_method_8_code, 4, (some .int), 2),
  (⟨"ThingTreesModel", "top", "(I)I"⟩, prog_6_method_9_code, 3, (some .int), 2),
  (⟨"ThingTreesModel", "has", "(II)Z"⟩, prog_6_method_10_code, 5, (some .boolean), 2),
  (⟨"ThingTreesModel", "isPart", "(I)Z"⟩, prog_6_method_11_code, 2, (some .boolean), 3),
  (⟨"ThingTreesModel", "isHeld", "(III)Z"⟩, prog_6_method_12_code, 4, (some .boolean), 3),
  (⟨"ThingTreesModel", "isFull", "(I)Z"⟩, prog_6_method_13_code, 5, (some .boolean), 2),
  (⟨"ThingTreesModel", "come", "(III)V"⟩, prog_6_method_14_code, 11, none, 3),
  (⟨"ThingTreesModel", "close", "(II)V"⟩, prog_6_method_15_code, 4, none, 1),
  (⟨"ThingTreesModel", "isBar", "(IIIZ)Z"⟩, prog_6_method_16_code, 5, (some .boolean), 2),
  (⟨"ThingTreesModel", "route", "(IIZ)I"⟩, prog_6_method_17_code, 10, (some .int), 3),
  (⟨"ThingTreesModel", "hasLight", "(I)Z"⟩, prog_6_method_18_code, 6, (some .boolean), 4),
  (⟨"ThingTreesModel", "thing", "(II)I"⟩, prog_6_method_19_code, 4, (some .int), 1),
  (⟨"ThingTreesModel", "holds", "(II)Z"⟩, prog_6_method_20_code, 3, (some .boolean), 1),
  (⟨"ThingTreesModel", "move", "(III)I"⟩, prog_6_method_21_code, 4, (some .int), 4),
  (⟨"ThingTreesModel", "part", "(II)I"⟩, prog_6_method_22_code, 4, (some .int), 4),
  (⟨"ThingTreesModel", "open", "(IZ)I"⟩, prog_6_method_23_code, 4, (some .int), 3),
  (⟨"ThingTreesModel", "clears", "(IZ)I"⟩, prog_6_method_24_code, 4, (some .int), 3),
  (⟨"ThingTreesModel", "lit", "(IZ)I"⟩, prog_6_method_25_code, 4, (some .int), 3),
  (⟨"ThingTreesModel", "glows", "(IZ)I"⟩, prog_6_method_26_code, 4, (some .int), 3),
  (⟨"ThingTreesModel", "spread", "(IIZ)I"⟩, prog_6_method_27_code, 5, (some .int), 3),
  (⟨"ThingTreesModel", "isStuff", "(I)Z"⟩, prog_6_method_28_code, 2, (some .boolean), 2),
  (⟨"ThingTreesModel", "take", "(II)I"⟩, prog_6_method_29_code, 4, (some .int), 4),
  (⟨"ThingTreesModel", "drop", "(II)I"⟩, prog_6_method_30_code, 4, (some .int), 4),
  (⟨"ThingTreesModel", "put", "(III)I"⟩, prog_6_method_31_code, 6, (some .int), 4),
  (⟨"ThingTreesModel", "wear", "(II)I"⟩, prog_6_method_32_code, 4, (some .int), 4),
  (⟨"ThingTreesModel", "enter", "(II)I"⟩, prog_6_method_33_code, 4, (some .int), 4),
  (⟨"ThingTreesModel", "leave", "(I)I"⟩, prog_6_method_34_code, 4, (some .int), 4),
  (⟨"ThingTreesModel", "go", "(II)I"⟩, prog_6_method_35_code, 6, (some .int), 4),
  (⟨"ThingTreesModel", "lose", "(I)I"⟩, prog_6_method_36_code, 8, (some .int), 4),
  (⟨"ThingTreesModel", "touches", "(II)I"⟩, prog_6_method_37_code, 4, (some .int), 4),
  (⟨"ThingTreesModel", "sees", "(II)I"⟩, prog_6_method_38_code, 4, (some .int), 5),
  (⟨"ThingTreesModel", "light", "(I)I"⟩, prog_6_method_39_code, 2, (some .int), 5),
  (⟨"ThingTreesModel", "holder", "(I)I"⟩, prog_6_method_40_code, 3, (some .int), 3),
  (⟨"ThingTreesModel", "way", "(I)I"⟩, prog_6_method_41_code, 2, (some .int), 3),
  (⟨"ThingTreesModel", "child", "(II)I"⟩, prog_6_method_42_code, 6, (some .int), 3),
  (⟨"ThingTreesModel", "count", "(I)I"⟩, prog_6_method_43_code, 2, (some .int), 3),
  (⟨"ThingTreesModel", "walk", "(II)I"⟩, prog_6_method_44_code, 4, (some .int), 3),
  (⟨"ThingTreesModel", "root", "(I)I"⟩, prog_6_method_45_code, 2, (some .int), 3),
  (⟨"ThingTreesModel", "ring", "(II)I"⟩, prog_6_method_46_code, 3, (some .int), 3),
  (⟨"ThingTreesModel", "row", "(II)I"⟩, prog_6_method_47_code, 5, (some .int), 1),
  (⟨"ThingTreesModel", "told", "(I)I"⟩, prog_6_method_48_code, 4, (some .int), 2),
  (⟨"ThingTrees$Changes", "<init>", "()V"⟩, prog_2_method_1_code, 1, none, 1),
  (⟨"ThingTrees$Changes", "forget", "()V"⟩, prog_2_method_2_code, 1, none, 1),
  (⟨"ThingTrees$Changes", "note", "(IIII)V"⟩, prog_2_method_3_code, 6, none, 2),
  (⟨"ThingTrees$Changes", "column", "(II)I"⟩, prog_2_method_4_code, 3, (some .int), 2),
  (⟨"ThingTrees$Route", "forTouch", "(LThingTrees$Thing;LThingTrees$Thing;)I"⟩, prog_3_method_2_code, 2, (some .int), 4),
  (⟨"ThingTrees$Route", "forSight", "(LThingTrees$Thing;LThingTrees$Thing;)I"⟩, prog_3_method_3_code, 2, (some .int), 4),
  (⟨"ThingTrees$Route", "forTouchInside", "(LThingTrees$Thing;LThingTrees$Thing;)I"⟩, prog_3_method_4_code, 3, (some .int), 5),
  (⟨"ThingTrees$Route", "follow", "(LThingTrees$Thing;LThingTrees$Thing;Z)I"⟩, prog_3_method_5_code, 5, (some .int), 3),
  (⟨"ThingTrees$Route", "turnOf", "(LThingTrees$Thing;LThingTrees$Thing;)LThingTrees$Thing;"⟩, prog_3_method_6_code, 3, (some (.object "ThingTrees$Thing")), 2),
  (⟨"ThingTrees$Route", "firstBarUp", "(LThingTrees$Thing;LThingTrees$Thing;Z)LThingTrees$Thing;"⟩, prog_3_method_7_code, 4, (some (.object "ThingTrees$Thing")), 2),
  (⟨"ThingTrees$Route", "firstBarDown", "(LThingTrees$Thing;LThingTrees$Thing;LThingTrees$Thing;Z)LThingTrees$Thing;"⟩, prog_3_method_8_code, 6, (some (.object "ThingTrees$Thing")), 2),
  (⟨"ThingTrees$Route", "isBarred", "(LThingTrees$Thing;LThingTrees$Thing;Z)Z"⟩, prog_3_method_9_code, 5, (some .boolean), 1),
  (⟨"ThingTrees$Thing", "<init>", "(III)V"⟩, prog_4_method_1_code, 4, none, 1),
  (⟨"ThingTrees$Thing", "canHaveHolder", "()Z"⟩, prog_4_method_2_code, 1, (some .boolean), 1),
  (⟨"ThingTrees$Thing", "isLoose", "()Z"⟩, prog_4_method_3_code, 1, (some .boolean), 2),
  (⟨"ThingTrees$Thing", "canBeEntered", "()Z"⟩, prog_4_method_4_code, 1, (some .boolean), 1),
  (⟨"ThingTrees$Thing", "canBeHeldBy", "(I)Z"⟩, prog_4_method_5_code, 2, (some .boolean), 1),
  (⟨"ThingTrees$Thing", "holdsBy", "(I)Z"⟩, prog_4_method_6_code, 2, (some .boolean), 1),
  (⟨"ThingTrees$Thing", "isHeldBy", "(LThingTrees$Thing;I)Z"⟩, prog_4_method_7_code, 3, (some .boolean), 1),
  (⟨"ThingTrees$Thing", "isSpreadTo", "(LThingTrees$Thing;)Z"⟩, prog_4_method_8_code, 2, (some .boolean), 1),
  (⟨"ThingTrees$Thing", "isFull", "()Z"⟩, prog_4_method_9_code, 3, (some .boolean), 1),
  (⟨"ThingTrees$Thing", "isWithin", "(LThingTrees$Thing;)Z"⟩, prog_4_method_10_code, 3, (some .boolean), 1),
  (⟨"ThingTrees$Thing", "topmost", "()LThingTrees$Thing;"⟩, prog_4_method_11_code, 2, (some (.object "ThingTrees$Thing")), 1),
  (⟨"ThingTrees$Thing", "nextInWalk", "(LThingTrees$Thing;)LThingTrees$Thing;"⟩, prog_4_method_12_code, 3, (some (.object "ThingTrees$Thing")), 1),
  (⟨"ThingTrees$Thing", "link", "(LThingTrees$Thing;I)V"⟩, prog_4_method_13_code, 3, none, 1),
  (⟨"ThingTrees$Thing", "unlink", "()V"⟩, prog_4_method_14_code, 1, none, 1),
  (⟨"java/lang/Math", "floorMod", "(II)I"⟩, prog_7_method_50_code, 3, (some .int), 1),
  (⟨"ThingTreesLaw", "law", "([I)Z"⟩, code, 4, (some .boolean), 7)]
def am_m0 : MethodName × ByteArray × Nat × Option FieldType × Nat := (⟨"", "", ""⟩, code, 0, none, 1)
def am_nm (y : Nat) : MethodName := (am_mt.getD y am_m0).1
def am_cd (y : Nat) : ByteArray := (am_mt.getD y am_m0).2.1
def am_mx (y : Nat) : Nat := (am_mt.getD y am_m0).2.2.1
def am_rt (y : Nat) : Option FieldType := (am_mt.getD y am_m0).2.2.2.1
def am_lv (y : Nat) : Nat := (am_mt.getD y am_m0).2.2.2.2
def am_t0 : List (Nat × am_I) := [(0, 3, 0, 0, 0, 0, 0), (1, 49, 0, 0, 0, 1, 0), (4, 3, 0, 0, 0, 0, 0), (5, 11, 0, 20, 0, 0, 0), (7, 40, 14, 0, 0, 9, 0), (10, 47, 1, 0, 0, 11, 0), (13, 3, 0, 0, 0, 0, 0), (14, 48, 3, 0, 0, 15, 0), (17, 21, 0, 0, 0, 0, 0), (18, 63, 92, 1, 1, 17, 3), (21, 47, 1, 1, 0, 18, 0), (24, 3, 0, 0, 0, 0, 0), (25, 11, 0, 20, 0, 0, 0), (27, 39, 10, 0, 0, 0, 0), (29, 47, 1, 2, 0, 22, 0), (32, 3, 0, 0, 0, 0, 0), (33, 10, 0, 0, 0, 0, 0), (34, 43, 1, 3, 0, 26, 0), (37, 73, 0, 0, 0, 0, 0)]
def am_t1 : List (Nat × am_I) := [(0, 10, 0, 0, 0, 0, 0), (1, 5, 1, 0, 0, 0, 0), (2, 1, 1, 0, 0, 0, 0), (3, 3, 0, 0, 0, 0, 0), (4, 42, 1, 0, 0, 11, 0), (7, 32, 0, 0, 0, 0, 0), (8, 26, 24, 3, 0, 0, 0), (11, 3, 0, 0, 0, 0, 0), (12, 42, 1, 0, 0, 11, 0), (15, 1, 1, 0, 0, 0, 0), (16, 31, 2, 0, 0, 0, 0), (17, 38, 14, 0, 0, 0, 0), (18, 9, 1, 1, 0, 0, 0), (21, 24, 2, 0, 0, 0, 0), (24, 3, 0, 0, 0, 0, 0), (25, 10, 0, 0, 0, 0, 0), (26, 43, 1, 3, 0, 26, 0), (29, 3, 0, 0, 0, 0, 0), (30, 42, 1, 1, 0, 18, 0), (33, 60, 93, 1, 1, 30, 3), (36, 73, 0, 0, 0, 0, 0)]
def am_t2 : List (Nat × am_I) := [(0, 1, 1, 0, 0, 0, 0), (1, 25, 20, 2, 0, 0, 0), (4, 1, 1, 0, 0, 0, 0), (5, 11, 0, 6, 0, 0, 0), (7, 26, 20, 4, 0, 0, 0), (10, 1, 2, 0, 0, 0, 0), (11, 25, 20, 2, 0, 0, 0), (14, 1, 2, 0, 0, 0, 0), (15, 11, 0, 9, 0, 0, 0), (17, 26, 23, 5, 0, 0, 0), (20, 11, 0, 0, 2, 0, 0), (22, 70, 0, 0, 0, 0, 0), (23, 3, 0, 0, 0, 0, 0), (24, 41, 1, 3, 0, 26, 0), (27, 25, 42, 2, 0, 0, 0), (30, 3, 0, 0, 0, 0, 0), (31, 41, 1, 3, 0, 26, 0), (34, 3, 0, 0, 0, 0, 0), (35, 42, 1, 0, 0, 11, 0), (38, 32, 0, 0, 0, 0, 0), (39, 26, 45, 2, 0, 0, 0), (42, 11, 0, 0, 5, 0, 0), (44, 70, 0, 0, 0, 0, 0), (45, 3, 0, 0, 0, 0, 0), (46, 41, 1, 3, 0, 26, 0), (49, 5, 3, 0, 0, 0, 0), (50, 3, 0, 0, 0, 0, 0), (51, 42, 1, 0, 0, 11, 0), (54, 1, 3, 0, 0, 0, 0), (55, 48, 2, 0, 0, 9, 0), (58, 21, 0, 0, 0, 0, 0), (59, 1, 3, 0, 0, 0, 0), (60, 1, 1, 0, 0, 0, 0), (61, 1, 2, 0, 0, 0, 0), (62, 62, 104, 4, 4, 33, 2), (65, 38, 14, 0, 0, 0, 0), (66, 3, 0, 0, 0, 0, 0), (67, 21, 0, 0, 0, 0, 0), (68, 41, 1, 3, 0, 26, 0), (71, 10, 0, 1, 0, 0, 0), (72, 12, 13, 0, 0, 0, 0), (73, 43, 1, 3, 0, 26, 0), (76, 1, 3, 0, 0, 0, 0), (77, 70, 0, 0, 0, 0, 0)]
def am_t3 : List (Nat × am_I) := [(0, 3, 0, 0, 0, 0, 0), (1, 1, 1, 0, 0, 0, 0), (2, 60, 30, 2, 2, 36, 1), (5, 8, 4, 0, 0, 0, 0), (7, 3, 0, 0, 0, 0, 0), (8, 1, 2, 0, 0, 0, 0), (9, 60, 30, 2, 2, 36, 1), (12, 8, 5, 0, 0, 0, 0), (14, 4, 4, 0, 0, 0, 0), (16, 29, 29, 0, 0, 0, 0), (19, 4, 5, 0, 0, 0, 0), (21, 30, 31, 0, 0, 0, 0), (24, 1, 2, 0, 0, 0, 0), (25, 10, 0, 0, 1, 0, 0), (26, 26, 31, 0, 0, 0, 0), (29, 10, 0, 0, 1, 0, 0), (30, 70, 0, 0, 0, 0, 0), (31, 1, 3, 0, 0, 0, 0), (32, 25, 40, 2, 0, 0, 0), (35, 1, 3, 0, 0, 0, 0), (36, 10, 0, 3, 0, 0, 0), (37, 26, 43, 5, 0, 0, 0), (40, 11, 0, 0, 2, 0, 0), (42, 70, 0, 0, 0, 0, 0), (43, 4, 4, 0, 0, 0, 0), (45, 60, 106, 1, 1, 40, 2), (48, 25, 54, 1, 0, 0, 0), (51, 11, 0, 0, 3, 0, 0), (53, 70, 0, 0, 0, 0, 0), (54, 4, 5, 0, 0, 0, 0), (56, 30, 68, 0, 0, 0, 0), (59, 3, 0, 0, 0, 0, 0), (60, 4, 4, 0, 0, 0, 0), (62, 60, 32, 2, 2, 44, 1), (65, 24, 77, 0, 0, 0, 0), (68, 3, 0, 0, 0, 0, 0), (69, 4, 4, 0, 0, 0, 0), (71, 4, 5, 0, 0, 0, 0), (73, 1, 3, 0, 0, 0, 0), (74, 60, 33, 4, 4, 48, 1), (77, 70, 0, 0, 0, 0, 0)]
def am_t4 : List (Nat × am_I) := [(0, 3, 0, 0, 0, 0, 0), (1, 1, 1, 0, 0, 0, 0), (2, 60, 30, 2, 2, 36, 1), (5, 7, 3, 0, 0, 0, 0), (6, 3, 0, 0, 0, 0, 0), (7, 1, 2, 0, 0, 0, 0), (8, 60, 30, 2, 2, 36, 1), (11, 8, 4, 0, 0, 0, 0), (13, 3, 3, 0, 0, 0, 0), (14, 29, 22, 0, 0, 0, 0), (17, 4, 4, 0, 0, 0, 0), (19, 30, 24, 0, 0, 0, 0), (22, 10, 0, 0, 1, 0, 0), (23, 70, 0, 0, 0, 0, 0), (24, 3, 3, 0, 0, 0, 0), (25, 60, 106, 1, 1, 40, 2), (28, 25, 48, 0, 0, 0, 0), (31, 3, 3, 0, 0, 0, 0), (32, 41, 2, 1, 0, 52, 0), (35, 10, 0, 4, 0, 0, 0), (36, 26, 48, 0, 0, 0, 0), (39, 4, 4, 0, 0, 0, 0), (41, 10, 0, 4, 0, 0, 0), (42, 60, 109, 2, 2, 55, 2), (45, 25, 51, 1, 0, 0, 0), (48, 11, 0, 0, 3, 0, 0), (50, 70, 0, 0, 0, 0, 0), (51, 4, 4, 0, 0, 0, 0), (53, 3, 3, 0, 0, 0, 0), (54, 60, 113, 2, 3, 59, 2), (57, 25, 63, 0, 0, 0, 0), (60, 11, 0, 0, 4, 0, 0), (62, 70, 0, 0, 0, 0, 0), (63, 3, 0, 0, 0, 0, 0), (64, 3, 3, 0, 0, 0, 0), (65, 4, 4, 0, 0, 0, 0), (67, 10, 0, 4, 0, 0, 0), (68, 60, 35, 4, 4, 63, 1), (71, 10, 0, 1, 0, 0, 0), (72, 70, 0, 0, 0, 0, 0)]
def am_t5 : List (Nat × am_I) := [(0, 3, 0, 0, 0, 0, 0), (1, 1, 1, 0, 0, 0, 0), (2, 60, 30, 2, 2, 36, 1), (5, 7, 3, 0, 0, 0, 0), (6, 3, 3, 0, 0, 0, 0), (7, 30, 12, 0, 0, 0, 0), (10, 10, 0, 0, 1, 0, 0), (11, 70, 0, 0, 0, 0, 0), (12, 3, 3, 0, 0, 0, 0), (13, 41, 2, 1, 0, 52, 0), (16, 10, 0, 2, 0, 0, 0), (17, 26, 23, 0, 0, 0, 0), (20, 11, 0, 0, 3, 0, 0), (22, 70, 0, 0, 0, 0, 0), (23, 3, 3, 0, 0, 0, 0), (24, 41, 2, 9, 0, 67, 0), (27, 1, 2, 0, 0, 0, 0), (28, 26, 33, 0, 0, 0, 0), (31, 10, 0, 0, 0, 0, 0), (32, 70, 0, 0, 0, 0, 0), (33, 3, 3, 0, 0, 0, 0), (34, 1, 2, 0, 0, 0, 0), (35, 25, 42, 1, 0, 0, 0), (38, 10, 0, 1, 0, 0, 0), (39, 24, 43, 0, 0, 0, 0), (42, 10, 0, 0, 0, 0, 0), (43, 44, 2, 9, 0, 67, 0), (46, 10, 0, 1, 0, 0, 0), (47, 70, 0, 0, 0, 0, 0)]
def am_t6 : List (Nat × am_I) := [(0, 3, 0, 0, 0, 0, 0), (1, 1, 1, 0, 0, 0, 0), (2, 60, 30, 2, 2, 36, 1), (5, 7, 3, 0, 0, 0, 0), (6, 3, 3, 0, 0, 0, 0), (7, 30, 12, 0, 0, 0, 0), (10, 10, 0, 0, 1, 0, 0), (11, 70, 0, 0, 0, 0, 0), (12, 3, 3, 0, 0, 0, 0), (13, 41, 2, 1, 0, 52, 0), (16, 10, 0, 2, 0, 0, 0), (17, 26, 23, 0, 0, 0, 0), (20, 11, 0, 0, 3, 0, 0), (22, 70, 0, 0, 0, 0, 0), (23, 3, 3, 0, 0, 0, 0), (24, 41, 2, 10, 0, 71, 0), (27, 1, 2, 0, 0, 0, 0), (28, 26, 33, 1, 0, 0, 0), (31, 10, 0, 0, 0, 0, 0), (32, 70, 0, 0, 0, 0, 0), (33, 3, 3, 0, 0, 0, 0), (34, 1, 2, 0, 0, 0, 0), (35, 44, 2, 10, 0, 71, 0), (38, 10, 0, 1, 0, 0, 0), (39, 70, 0, 0, 0, 0, 0)]
def am_t7 : List (Nat × am_I) := [(0, 3, 0, 0, 0, 0, 0), (1, 1, 1, 0, 0, 0, 0), (2, 60, 30, 2, 2, 36, 1), (5, 7, 3, 0, 0, 0, 0), (6, 3, 3, 0, 0, 0, 0), (7, 30, 12, 0, 0, 0, 0), (10, 10, 0, 0, 1, 0, 0), (11, 70, 0, 0, 0, 0, 0), (12, 3, 3, 0, 0, 0, 0), (13, 41, 2, 1, 0, 52, 0), (16, 25, 27, 1, 0, 0, 0), (19, 3, 3, 0, 0, 0, 0), (20, 1, 2, 0, 0, 0, 0), (21, 61, 37, 2, 2, 74, 0), (24, 24, 29, 0, 0, 0, 0), (27, 11, 0, 0, 3, 0, 0), (29, 70, 0, 0, 0, 0, 0)]
def am_t8 : List (Nat × am_I) := [(0, 3, 0, 0, 0, 0, 0), (1, 1, 1, 0, 0, 0, 0), (2, 60, 30, 2, 2, 36, 1), (5, 7, 3, 0, 0, 0, 0), (6, 3, 3, 0, 0, 0, 0), (7, 30, 12, 0, 0, 0, 0), (10, 10, 0, 0, 1, 0, 0), (11, 70, 0, 0, 0, 0, 0), (12, 3, 3, 0, 0, 0, 0), (13, 41, 2, 1, 0, 52, 0), (16, 25, 24, 1, 0, 0, 0), (19, 11, 0, 0, 3, 0, 0), (21, 24, 29, 0, 0, 0, 0), (24, 3, 3, 0, 0, 0, 0), (25, 1, 2, 0, 0, 0, 0), (26, 61, 37, 2, 2, 74, 0), (29, 70, 0, 0, 0, 0, 0)]
def am_t9 : List (Nat × am_I) := [(0, 3, 0, 0, 0, 0, 0), (1, 1, 1, 0, 0, 0, 0), (2, 60, 30, 2, 2, 36, 1), (5, 8, 4, 0, 0, 0, 0), (7, 3, 0, 0, 0, 0, 0), (8, 1, 2, 0, 0, 0, 0), (9, 60, 30, 2, 2, 36, 1), (12, 8, 5, 0, 0, 0, 0), (14, 4, 4, 0, 0, 0, 0), (16, 29, 24, 0, 0, 0, 0), (19, 4, 5, 0, 0, 0, 0), (21, 30, 26, 0, 0, 0, 0), (24, 10, 0, 0, 1, 0, 0), (25, 70, 0, 0, 0, 0, 0), (26, 4, 4, 0, 0, 0, 0), (28, 41, 2, 1, 0, 52, 0), (31, 11, 0, 6, 0, 0, 0), (33, 26, 44, 1, 0, 0, 0), (36, 4, 5, 0, 0, 0, 0), (38, 41, 2, 1, 0, 52, 0), (41, 25, 47, 0, 0, 0, 0), (44, 11, 0, 0, 3, 0, 0), (46, 70, 0, 0, 0, 0, 0), (47, 4, 4, 0, 0, 0, 0), (49, 4, 5, 0, 0, 0, 0), (51, 60, 111, 2, 2, 78, 2), (54, 1, 3, 0, 0, 0, 0), (55, 26, 60, 1, 0, 0, 0), (58, 10, 0, 0, 0, 0, 0), (59, 70, 0, 0, 0, 0, 0), (60, 4, 4, 0, 0, 0, 0), (62, 21, 0, 0, 0, 0, 0), (63, 41, 2, 12, 0, 81, 0), (66, 10, 0, 1, 0, 0, 0), (67, 4, 5, 0, 0, 0, 0), (69, 41, 2, 0, 0, 84, 0), (72, 12, 19, 0, 0, 0, 0), (73, 12, 18, 0, 0, 0, 0), (74, 43, 2, 12, 0, 81, 0), (77, 10, 0, 1, 0, 0, 0), (78, 70, 0, 0, 0, 0, 0)]
def am_t10 : List (Nat × am_I) := [(0, 3, 0, 0, 0, 0, 0), (1, 1, 1, 0, 0, 0, 0), (2, 60, 30, 2, 2, 36, 1), (5, 7, 3, 0, 0, 0, 0), (6, 3, 0, 0, 0, 0, 0), (7, 1, 2, 0, 0, 0, 0), (8, 60, 30, 2, 2, 36, 1), (11, 8, 4, 0, 0, 0, 0), (13, 3, 3, 0, 0, 0, 0), (14, 29, 22, 0, 0, 0, 0), (17, 4, 4, 0, 0, 0, 0), (19, 30, 24, 0, 0, 0, 0), (22, 10, 0, 0, 1, 0, 0), (23, 70, 0, 0, 0, 0, 0), (24, 3, 3, 0, 0, 0, 0), (25, 41, 2, 1, 0, 52, 0), (28, 10, 0, 4, 0, 0, 0), (29, 26, 49, 1, 0, 0, 0), (32, 4, 4, 0, 0, 0, 0), (34, 60, 106, 1, 1, 40, 2), (37, 25, 49, 0, 0, 0, 0), (40, 4, 4, 0, 0, 0, 0), (42, 10, 0, 2, 0, 0, 0), (43, 60, 108, 2, 2, 87, 2), (46, 25, 52, 1, 0, 0, 0), (49, 11, 0, 0, 3, 0, 0), (51, 70, 0, 0, 0, 0, 0), (52, 4, 4, 0, 0, 0, 0), (54, 3, 3, 0, 0, 0, 0), (55, 10, 0, 2, 0, 0, 0), (56, 60, 110, 3, 3, 90, 2), (59, 25, 64, 0, 0, 0, 0), (62, 10, 0, 0, 0, 0, 0), (63, 70, 0, 0, 0, 0, 0), (64, 3, 3, 0, 0, 0, 0), (65, 4, 4, 0, 0, 0, 0), (67, 60, 113, 2, 3, 59, 2), (70, 25, 76, 0, 0, 0, 0), (73, 11, 0, 0, 4, 0, 0), (75, 70, 0, 0, 0, 0, 0), (76, 3, 3, 0, 0, 0, 0), (77, 4, 4, 0, 0, 0, 0), (79, 61, 96, 2, 2, 94, 0), (82, 6, 5, 0, 0, 0, 0), (84, 2, 5, 0, 0, 0, 0), (86, 25, 94, 3, 0, 0, 0), (89, 2, 5, 0, 0, 0, 0), (91, 24, 102, 0, 0, 0, 0), (94, 3, 0, 0, 0, 0, 0), (95, 4, 4, 0, 0, 0, 0), (97, 3, 3, 0, 0, 0, 0), (98, 10, 0, 2, 0, 0, 0), (99, 60, 34, 4, 4, 100, 1), (102, 70, 0, 0, 0, 0, 0)]
def am_t11 : List (Nat × am_I) := [(0, 3, 0, 0, 0, 0, 0), (1, 1, 1, 0, 0, 0, 0), (2, 60, 30, 2, 2, 36, 1), (5, 7, 3, 0, 0, 0, 0), (6, 3, 0, 0, 0, 0, 0), (7, 1, 2, 0, 0, 0, 0), (8, 60, 30, 2, 2, 36, 1), (11, 8, 4, 0, 0, 0, 0), (13, 3, 3, 0, 0, 0, 0), (14, 29, 22, 0, 0, 0, 0), (17, 4, 4, 0, 0, 0, 0), (19, 30, 24, 0, 0, 0, 0), (22, 10, 0, 0, 1, 0, 0), (23, 70, 0, 0, 0, 0, 0), (24, 4, 4, 0, 0, 0, 0), (26, 3, 3, 0, 0, 0, 0), (27, 10, 0, 3, 0, 0, 0), (28, 60, 110, 3, 3, 90, 2), (31, 6, 5, 0, 0, 0, 0), (33, 3, 3, 0, 0, 0, 0), (34, 41, 2, 1, 0, 52, 0), (37, 10, 0, 4, 0, 0, 0), (38, 26, 63, 1, 0, 0, 0), (41, 2, 5, 0, 0, 0, 0), (43, 25, 56, 1, 0, 0, 0), (46, 4, 4, 0, 0, 0, 0), (48, 3, 3, 0, 0, 0, 0), (49, 10, 0, 2, 0, 0, 0), (50, 60, 110, 3, 3, 90, 2), (53, 25, 63, 0, 0, 0, 0), (56, 3, 3, 0, 0, 0, 0), (57, 42, 2, 3, 0, 103, 0), (60, 30, 66, 0, 0, 0, 0), (63, 11, 0, 0, 3, 0, 0), (65, 70, 0, 0, 0, 0, 0), (66, 2, 5, 0, 0, 0, 0), (68, 25, 78, 0, 0, 0, 0), (71, 3, 3, 0, 0, 0, 0), (72, 60, 112, 1, 3, 107, 2), (75, 25, 88, 1, 0, 0, 0), (78, 3, 3, 0, 0, 0, 0), (79, 42, 2, 3, 0, 103, 0), (82, 60, 112, 1, 3, 107, 2), (85, 25, 91, 0, 0, 0, 0), (88, 11, 0, 0, 5, 0, 0), (90, 70, 0, 0, 0, 0, 0), (91, 2, 5, 0, 0, 0, 0), (93, 25, 104, 0, 0, 0, 0), (96, 3, 0, 0, 0, 0, 0), (97, 4, 4, 0, 0, 0, 0), (99, 3, 3, 0, 0, 0, 0), (100, 10, 0, 2, 0, 0, 0), (101, 60, 35, 4, 4, 63, 1), (104, 3, 0, 0, 0, 0, 0), (105, 4, 4, 0, 0, 0, 0), (107, 3, 3, 0, 0, 0, 0), (108, 42, 2, 3, 0, 103, 0), (111, 3, 3, 0, 0, 0, 0), (112, 41, 2, 4, 0, 110, 0), (115, 60, 35, 4, 4, 63, 1), (118, 10, 0, 1, 0, 0, 0), (119, 70, 0, 0, 0, 0, 0)]
def am_t12 : List (Nat × am_I) := [(0, 3, 0, 0, 0, 0, 0), (1, 1, 1, 0, 0, 0, 0), (2, 60, 30, 2, 2, 36, 1), (5, 8, 4, 0, 0, 0, 0), (7, 3, 0, 0, 0, 0, 0), (8, 1, 2, 0, 0, 0, 0), (9, 60, 30, 2, 2, 36, 1), (12, 8, 5, 0, 0, 0, 0), (14, 3, 0, 0, 0, 0, 0), (15, 1, 3, 0, 0, 0, 0), (16, 60, 30, 2, 2, 36, 1), (19, 8, 6, 0, 0, 0, 0), (21, 4, 4, 0, 0, 0, 0), (23, 29, 36, 0, 0, 0, 0), (26, 4, 5, 0, 0, 0, 0), (28, 29, 36, 0, 0, 0, 0), (31, 4, 6, 0, 0, 0, 0), (33, 30, 38, 0, 0, 0, 0), (36, 10, 0, 0, 1, 0, 0), (37, 70, 0, 0, 0, 0, 0), (38, 4, 4, 0, 0, 0, 0), (40, 41, 2, 1, 0, 52, 0), (43, 10, 0, 4, 0, 0, 0), (44, 26, 76, 1, 0, 0, 0), (47, 4, 5, 0, 0, 0, 0), (49, 4, 4, 0, 0, 0, 0), (51, 10, 0, 2, 0, 0, 0), (52, 60, 110, 3, 3, 90, 2), (55, 25, 76, 0, 0, 0, 0), (58, 4, 6, 0, 0, 0, 0), (60, 10, 0, 0, 0, 0, 0), (61, 60, 109, 2, 2, 55, 2), (64, 25, 79, 1, 0, 0, 0), (67, 4, 6, 0, 0, 0, 0), (69, 10, 0, 1, 0, 0, 0), (70, 60, 109, 2, 2, 55, 2), (73, 25, 79, 1, 0, 0, 0), (76, 11, 0, 0, 3, 0, 0), (78, 70, 0, 0, 0, 0, 0), (79, 4, 6, 0, 0, 0, 0), (81, 4, 5, 0, 0, 0, 0), (83, 60, 113, 2, 3, 59, 2), (86, 25, 92, 0, 0, 0, 0), (89, 11, 0, 0, 4, 0, 0), (91, 70, 0, 0, 0, 0, 0), (92, 4, 4, 0, 0, 0, 0), (94, 4, 6, 0, 0, 0, 0), (96, 61, 98, 2, 3, 113, 0), (99, 6, 7, 0, 0, 0, 0), (101, 2, 7, 0, 0, 0, 0), (103, 25, 111, 3, 0, 0, 0), (106, 2, 7, 0, 0, 0, 0), (108, 24, 133, 0, 0, 0, 0), (111, 3, 0, 0, 0, 0, 0), (112, 4, 5, 0, 0, 0, 0), (114, 4, 6, 0, 0, 0, 0), (116, 4, 6, 0, 0, 0, 0), (118, 10, 0, 1, 0, 0, 0), (119, 60, 109, 2, 2, 55, 2), (122, 25, 129, 0, 0, 0, 0), (125, 10, 0, 1, 0, 0, 0), (126, 24, 130, 0, 0, 0, 0), (129, 10, 0, 0, 0, 0, 0), (130, 60, 34, 4, 4, 100, 1), (133, 70, 0, 0, 0, 0, 0)]
def am_t13 : List (Nat × am_I) := [(0, 3, 0, 0, 0, 0, 0), (1, 1, 1, 0, 0, 0, 0), (2, 60, 30, 2, 2, 36, 1), (5, 7, 3, 0, 0, 0, 0), (6, 3, 0, 0, 0, 0, 0), (7, 1, 2, 0, 0, 0, 0), (8, 60, 30, 2, 2, 36, 1), (11, 8, 4, 0, 0, 0, 0), (13, 3, 3, 0, 0, 0, 0), (14, 29, 22, 0, 0, 0, 0), (17, 4, 4, 0, 0, 0, 0), (19, 30, 24, 0, 0, 0, 0), (22, 10, 0, 0, 1, 0, 0), (23, 70, 0, 0, 0, 0, 0), (24, 4, 4, 0, 0, 0, 0), (26, 3, 3, 0, 0, 0, 0), (27, 10, 0, 3, 0, 0, 0), (28, 60, 110, 3, 3, 90, 2), (31, 6, 5, 0, 0, 0, 0), (33, 3, 3, 0, 0, 0, 0), (34, 41, 2, 1, 0, 52, 0), (37, 10, 0, 4, 0, 0, 0), (38, 26, 65, 1, 0, 0, 0), (41, 4, 4, 0, 0, 0, 0), (43, 41, 2, 1, 0, 52, 0), (46, 10, 0, 1, 0, 0, 0), (47, 26, 65, 1, 0, 0, 0), (50, 2, 5, 0, 0, 0, 0), (52, 25, 68, 1, 0, 0, 0), (55, 4, 4, 0, 0, 0, 0), (57, 3, 3, 0, 0, 0, 0), (58, 10, 0, 2, 0, 0, 0), (59, 60, 110, 3, 3, 90, 2), (62, 25, 68, 1, 0, 0, 0), (65, 11, 0, 0, 3, 0, 0), (67, 70, 0, 0, 0, 0, 0), (68, 2, 5, 0, 0, 0, 0), (70, 25, 75, 0, 0, 0, 0), (73, 10, 0, 0, 0, 0, 0), (74, 70, 0, 0, 0, 0, 0), (75, 3, 0, 0, 0, 0, 0), (76, 4, 4, 0, 0, 0, 0), (78, 3, 3, 0, 0, 0, 0), (79, 10, 0, 3, 0, 0, 0), (80, 60, 35, 4, 4, 63, 1), (83, 10, 0, 1, 0, 0, 0), (84, 70, 0, 0, 0, 0, 0)]
def am_t14 : List (Nat × am_I) := [(0, 3, 0, 0, 0, 0, 0), (1, 1, 1, 0, 0, 0, 0), (2, 60, 30, 2, 2, 36, 1), (5, 7, 3, 0, 0, 0, 0), (6, 3, 0, 0, 0, 0, 0), (7, 1, 2, 0, 0, 0, 0), (8, 60, 30, 2, 2, 36, 1), (11, 8, 4, 0, 0, 0, 0), (13, 3, 3, 0, 0, 0, 0), (14, 29, 22, 0, 0, 0, 0), (17, 4, 4, 0, 0, 0, 0), (19, 30, 24, 0, 0, 0, 0), (22, 10, 0, 0, 1, 0, 0), (23, 70, 0, 0, 0, 0, 0), (24, 3, 3, 0, 0, 0, 0), (25, 41, 2, 1, 0, 52, 0), (28, 10, 0, 4, 0, 0, 0), (29, 26, 40, 1, 0, 0, 0), (32, 4, 4, 0, 0, 0, 0), (34, 60, 107, 1, 1, 116, 2), (37, 25, 43, 1, 0, 0, 0), (40, 11, 0, 0, 3, 0, 0), (42, 70, 0, 0, 0, 0, 0), (43, 3, 3, 0, 0, 0, 0), (44, 4, 4, 0, 0, 0, 0), (46, 10, 0, 0, 0, 0, 0), (47, 60, 110, 3, 3, 90, 2), (50, 25, 55, 0, 0, 0, 0), (53, 10, 0, 0, 0, 0, 0), (54, 70, 0, 0, 0, 0, 0), (55, 4, 4, 0, 0, 0, 0), (57, 3, 3, 0, 0, 0, 0), (58, 60, 113, 2, 3, 59, 2), (61, 25, 67, 0, 0, 0, 0), (64, 11, 0, 0, 4, 0, 0), (66, 70, 0, 0, 0, 0, 0), (67, 3, 3, 0, 0, 0, 0), (68, 4, 4, 0, 0, 0, 0), (70, 61, 98, 2, 3, 113, 0), (73, 6, 5, 0, 0, 0, 0), (75, 2, 5, 0, 0, 0, 0), (77, 25, 85, 3, 0, 0, 0), (80, 2, 5, 0, 0, 0, 0), (82, 24, 93, 0, 0, 0, 0), (85, 3, 0, 0, 0, 0, 0), (86, 3, 3, 0, 0, 0, 0), (87, 4, 4, 0, 0, 0, 0), (89, 10, 0, 0, 0, 0, 0), (90, 60, 34, 4, 4, 100, 1), (93, 70, 0, 0, 0, 0, 0)]
def am_t15 : List (Nat × am_I) := [(0, 3, 0, 0, 0, 0, 0), (1, 1, 1, 0, 0, 0, 0), (2, 60, 30, 2, 2, 36, 1), (5, 7, 2, 0, 0, 0, 0), (6, 3, 2, 0, 0, 0, 0), (7, 30, 12, 0, 0, 0, 0), (10, 10, 0, 0, 1, 0, 0), (11, 70, 0, 0, 0, 0, 0), (12, 3, 2, 0, 0, 0, 0), (13, 42, 2, 3, 0, 103, 0), (16, 7, 3, 0, 0, 0, 0), (17, 3, 2, 0, 0, 0, 0), (18, 41, 2, 1, 0, 52, 0), (21, 10, 0, 4, 0, 0, 0), (22, 26, 36, 1, 0, 0, 0), (25, 3, 3, 0, 0, 0, 0), (26, 29, 36, 0, 0, 0, 0), (29, 3, 3, 0, 0, 0, 0), (30, 60, 107, 1, 1, 116, 2), (33, 25, 39, 1, 0, 0, 0), (36, 11, 0, 0, 3, 0, 0), (38, 70, 0, 0, 0, 0, 0), (39, 3, 3, 0, 0, 0, 0), (40, 42, 2, 3, 0, 103, 0), (43, 8, 4, 0, 0, 0, 0), (45, 4, 4, 0, 0, 0, 0), (47, 29, 65, 0, 0, 0, 0), (50, 3, 3, 0, 0, 0, 0), (51, 41, 2, 4, 0, 110, 0), (54, 25, 68, 0, 0, 0, 0), (57, 3, 3, 0, 0, 0, 0), (58, 41, 2, 4, 0, 110, 0), (61, 10, 0, 1, 0, 0, 0), (62, 26, 68, 0, 0, 0, 0), (65, 11, 0, 0, 3, 0, 0), (67, 70, 0, 0, 0, 0, 0), (68, 3, 3, 0, 0, 0, 0), (69, 41, 2, 9, 0, 67, 0), (72, 25, 85, 0, 0, 0, 0), (75, 11, 0, 0, 10, 0, 0), (77, 3, 3, 0, 0, 0, 0), (78, 41, 2, 0, 0, 84, 0), (81, 12, 14, 0, 0, 0, 0), (82, 24, 96, 0, 0, 0, 0), (85, 3, 0, 0, 0, 0, 0), (86, 3, 2, 0, 0, 0, 0), (87, 4, 4, 0, 0, 0, 0), (89, 3, 3, 0, 0, 0, 0), (90, 41, 2, 4, 0, 110, 0), (93, 60, 34, 4, 4, 100, 1), (96, 70, 0, 0, 0, 0, 0)]
def am_t16 : List (Nat × am_I) := [(0, 3, 0, 0, 0, 0, 0), (1, 1, 1, 0, 0, 0, 0), (2, 60, 30, 2, 2, 36, 1), (5, 7, 3, 0, 0, 0, 0), (6, 3, 0, 0, 0, 0, 0), (7, 1, 2, 0, 0, 0, 0), (8, 60, 30, 2, 2, 36, 1), (11, 8, 4, 0, 0, 0, 0), (13, 3, 3, 0, 0, 0, 0), (14, 29, 22, 0, 0, 0, 0), (17, 4, 4, 0, 0, 0, 0), (19, 30, 24, 0, 0, 0, 0), (22, 10, 0, 0, 1, 0, 0), (23, 70, 0, 0, 0, 0, 0), (24, 3, 3, 0, 0, 0, 0), (25, 42, 2, 3, 0, 103, 0), (28, 29, 49, 0, 0, 0, 0), (31, 3, 3, 0, 0, 0, 0), (32, 42, 2, 3, 0, 103, 0), (35, 41, 2, 1, 0, 52, 0), (38, 10, 0, 5, 0, 0, 0), (39, 26, 49, 1, 0, 0, 0), (42, 3, 3, 0, 0, 0, 0), (43, 42, 2, 3, 0, 103, 0), (46, 24, 50, 0, 0, 0, 0), (49, 3, 3, 0, 0, 0, 0), (50, 8, 5, 0, 0, 0, 0), (52, 4, 5, 0, 0, 0, 0), (54, 42, 2, 3, 0, 103, 0), (57, 8, 6, 0, 0, 0, 0), (59, 3, 3, 0, 0, 0, 0), (60, 41, 2, 1, 0, 52, 0), (63, 10, 0, 4, 0, 0, 0), (64, 26, 88, 1, 0, 0, 0), (67, 4, 4, 0, 0, 0, 0), (69, 41, 2, 1, 0, 52, 0), (72, 25, 88, 1, 0, 0, 0), (75, 4, 6, 0, 0, 0, 0), (77, 29, 88, 0, 0, 0, 0), (80, 4, 6, 0, 0, 0, 0), (82, 41, 2, 1, 0, 52, 0), (85, 25, 91, 0, 0, 0, 0), (88, 11, 0, 0, 3, 0, 0), (90, 70, 0, 0, 0, 0, 0), (91, 4, 6, 0, 0, 0, 0), (93, 4, 4, 0, 0, 0, 0), (95, 28, 102, 0, 0, 0, 0), (98, 10, 0, 0, 0, 0, 0), (99, 24, 111, 0, 0, 0, 0), (102, 3, 0, 0, 0, 0, 0), (103, 4, 5, 0, 0, 0, 0), (105, 4, 4, 0, 0, 0, 0), (107, 10, 0, 0, 0, 0, 0), (108, 60, 34, 4, 4, 100, 1), (111, 70, 0, 0, 0, 0, 0)]
def am_t17 : List (Nat × am_I) := [(0, 3, 0, 0, 0, 0, 0), (1, 1, 1, 0, 0, 0, 0), (2, 60, 30, 2, 2, 36, 1), (5, 7, 2, 0, 0, 0, 0), (6, 3, 2, 0, 0, 0, 0), (7, 30, 12, 0, 0, 0, 0), (10, 10, 0, 0, 1, 0, 0), (11, 70, 0, 0, 0, 0, 0), (12, 3, 0, 0, 0, 0, 0), (13, 3, 2, 0, 0, 0, 0), (14, 60, 42, 2, 4, 119, 1), (17, 5, 3, 0, 0, 0, 0), (18, 3, 2, 0, 0, 0, 0), (19, 60, 117, 1, 1, 122, 2), (22, 3, 0, 0, 0, 0, 0), (23, 3, 2, 0, 0, 0, 0), (24, 60, 40, 2, 2, 125, 1), (27, 10, 0, 1, 0, 0, 0), (28, 6, 4, 0, 0, 0, 0), (30, 10, 0, 1, 0, 0, 0), (31, 6, 5, 0, 0, 0, 0), (33, 2, 5, 0, 0, 0, 0), (35, 1, 3, 0, 0, 0, 0), (36, 26, 93, 3, 0, 0, 0), (39, 2, 5, 0, 0, 0, 0), (41, 3, 0, 0, 0, 0, 0), (42, 42, 1, 2, 0, 22, 0), (45, 32, 0, 0, 0, 0, 0), (46, 26, 93, 3, 0, 0, 0), (49, 3, 0, 0, 0, 0, 0), (50, 3, 0, 0, 0, 0, 0), (51, 42, 1, 2, 0, 22, 0), (54, 2, 5, 0, 0, 0, 0), (56, 33, 10, 0, 0, 0, 0), (57, 60, 30, 2, 2, 36, 1), (60, 8, 6, 0, 0, 0, 0), (62, 4, 6, 0, 0, 0, 0), (64, 29, 87, 0, 0, 0, 0), (67, 3, 0, 0, 0, 0, 0), (68, 4, 6, 0, 0, 0, 0), (70, 60, 38, 2, 2, 129, 1), (73, 25, 87, 0, 0, 0, 0), (76, 2, 4, 0, 0, 0, 0), (78, 3, 0, 0, 0, 0, 0), (79, 4, 6, 0, 0, 0, 0), (81, 60, 39, 2, 2, 132, 1), (84, 12, 13, 0, 0, 0, 0), (85, 6, 4, 0, 0, 0, 0), (87, 9, 5, 1, 0, 0, 0), (90, 24, 33, 0, 0, 0, 0), (93, 2, 4, 0, 0, 0, 0), (95, 70, 0, 0, 0, 0, 0)]
def am_t18 : List (Nat × am_I) := [(0, 3, 0, 0, 0, 0, 0), (1, 1, 1, 0, 0, 0, 0), (2, 60, 30, 2, 2, 36, 1), (5, 7, 3, 0, 0, 0, 0), (6, 3, 0, 0, 0, 0, 0), (7, 1, 2, 0, 0, 0, 0), (8, 60, 30, 2, 2, 36, 1), (11, 8, 4, 0, 0, 0, 0), (13, 3, 3, 0, 0, 0, 0), (14, 29, 22, 0, 0, 0, 0), (17, 4, 4, 0, 0, 0, 0), (19, 30, 24, 0, 0, 0, 0), (22, 10, 0, 0, 1, 0, 0), (23, 70, 0, 0, 0, 0, 0), (24, 3, 3, 0, 0, 0, 0), (25, 41, 2, 1, 0, 52, 0), (28, 10, 0, 4, 0, 0, 0), (29, 26, 41, 1, 0, 0, 0), (32, 3, 3, 0, 0, 0, 0), (33, 4, 4, 0, 0, 0, 0), (35, 61, 96, 2, 2, 94, 0), (38, 24, 43, 0, 0, 0, 0), (41, 11, 0, 0, 3, 0, 0), (43, 70, 0, 0, 0, 0, 0)]
def am_t19 : List (Nat × am_I) := [(0, 3, 0, 0, 0, 0, 0), (1, 1, 1, 0, 0, 0, 0), (2, 60, 30, 2, 2, 36, 1), (5, 7, 3, 0, 0, 0, 0), (6, 3, 0, 0, 0, 0, 0), (7, 1, 2, 0, 0, 0, 0), (8, 60, 30, 2, 2, 36, 1), (11, 8, 4, 0, 0, 0, 0), (13, 3, 3, 0, 0, 0, 0), (14, 29, 22, 0, 0, 0, 0), (17, 4, 4, 0, 0, 0, 0), (19, 30, 24, 0, 0, 0, 0), (22, 10, 0, 0, 1, 0, 0), (23, 70, 0, 0, 0, 0, 0), (24, 3, 3, 0, 0, 0, 0), (25, 41, 2, 1, 0, 52, 0), (28, 10, 0, 4, 0, 0, 0), (29, 26, 35, 0, 0, 0, 0), (32, 11, 0, 0, 3, 0, 0), (34, 70, 0, 0, 0, 0, 0), (35, 3, 3, 0, 0, 0, 0), (36, 4, 4, 0, 0, 0, 0), (38, 61, 97, 2, 2, 135, 0), (41, 6, 5, 0, 0, 0, 0), (43, 2, 5, 0, 0, 0, 0), (45, 25, 51, 3, 0, 0, 0), (48, 2, 5, 0, 0, 0, 0), (50, 70, 0, 0, 0, 0, 0), (51, 3, 0, 0, 0, 0, 0), (52, 3, 3, 0, 0, 0, 0), (53, 60, 41, 2, 6, 138, 1), (56, 25, 63, 0, 0, 0, 0), (59, 10, 0, 1, 0, 0, 0), (60, 24, 65, 0, 0, 0, 0), (63, 11, 0, 0, 7, 0, 0), (65, 70, 0, 0, 0, 0, 0)]
def am_t20 : List (Nat × am_I) := [(0, 3, 0, 0, 0, 0, 0), (1, 1, 1, 0, 0, 0, 0), (2, 60, 30, 2, 2, 36, 1), (5, 7, 2, 0, 0, 0, 0), (6, 3, 2, 0, 0, 0, 0), (7, 30, 12, 0, 0, 0, 0), (10, 10, 0, 0, 1, 0, 0), (11, 70, 0, 0, 0, 0, 0), (12, 3, 2, 0, 0, 0, 0), (13, 41, 2, 1, 0, 52, 0), (16, 10, 0, 4, 0, 0, 0), (17, 26, 23, 0, 0, 0, 0), (20, 11, 0, 0, 3, 0, 0), (22, 70, 0, 0, 0, 0, 0), (23, 3, 0, 0, 0, 0, 0), (24, 3, 2, 0, 0, 0, 0), (25, 60, 41, 2, 6, 138, 1), (28, 25, 35, 0, 0, 0, 0), (31, 10, 0, 1, 0, 0, 0), (32, 24, 36, 0, 0, 0, 0), (35, 10, 0, 0, 0, 0, 0), (36, 70, 0, 0, 0, 0, 0)]
def am_t21 : List (Nat × am_I) := [(0, 3, 0, 0, 0, 0, 0), (1, 1, 1, 0, 0, 0, 0), (2, 60, 30, 2, 2, 36, 1), (5, 7, 2, 0, 0, 0, 0), (6, 3, 2, 0, 0, 0, 0), (7, 30, 14, 0, 0, 0, 0), (10, 10, 0, 0, 1, 0, 0), (11, 24, 21, 0, 0, 0, 0), (14, 3, 2, 0, 0, 0, 0), (15, 42, 2, 3, 0, 103, 0), (18, 61, 31, 1, 1, 141, 0), (21, 70, 0, 0, 0, 0, 0)]
def am_t22 : List (Nat × am_I) := [(0, 3, 0, 0, 0, 0, 0), (1, 1, 1, 0, 0, 0, 0), (2, 60, 30, 2, 2, 36, 1), (5, 7, 2, 0, 0, 0, 0), (6, 3, 2, 0, 0, 0, 0), (7, 30, 14, 0, 0, 0, 0), (10, 10, 0, 0, 1, 0, 0), (11, 24, 18, 0, 0, 0, 0), (14, 3, 2, 0, 0, 0, 0), (15, 41, 2, 4, 0, 110, 0), (18, 70, 0, 0, 0, 0, 0)]
def am_t23 : List (Nat × am_I) := [(0, 3, 0, 0, 0, 0, 0), (1, 1, 1, 0, 0, 0, 0), (2, 60, 30, 2, 2, 36, 1), (5, 7, 3, 0, 0, 0, 0), (6, 3, 3, 0, 0, 0, 0), (7, 30, 12, 0, 0, 0, 0), (10, 10, 0, 0, 1, 0, 0), (11, 70, 0, 0, 0, 0, 0), (12, 10, 0, 0, 0, 0, 0), (13, 6, 4, 0, 0, 0, 0), (15, 3, 3, 0, 0, 0, 0), (16, 42, 2, 5, 0, 144, 0), (19, 8, 5, 0, 0, 0, 0), (21, 4, 5, 0, 0, 0, 0), (23, 29, 51, 0, 0, 0, 0), (26, 2, 4, 0, 0, 0, 0), (28, 1, 2, 0, 0, 0, 0), (29, 26, 38, 1, 0, 0, 0), (32, 4, 5, 0, 0, 0, 0), (34, 41, 2, 0, 0, 84, 0), (37, 70, 0, 0, 0, 0, 0), (38, 9, 4, 1, 0, 0, 0), (41, 4, 5, 0, 0, 0, 0), (43, 42, 2, 8, 0, 147, 0), (46, 8, 5, 0, 0, 0, 0), (48, 24, 21, 0, 0, 0, 0), (51, 11, 0, 0, 2, 0, 0), (53, 70, 0, 0, 0, 0, 0)]
def am_t24 : List (Nat × am_I) := [(0, 3, 0, 0, 0, 0, 0), (1, 1, 1, 0, 0, 0, 0), (2, 60, 30, 2, 2, 36, 1), (5, 7, 2, 0, 0, 0, 0), (6, 3, 2, 0, 0, 0, 0), (7, 30, 14, 0, 0, 0, 0), (10, 10, 0, 0, 1, 0, 0), (11, 24, 21, 0, 0, 0, 0), (14, 3, 0, 0, 0, 0, 0), (15, 3, 2, 0, 0, 0, 0), (16, 60, 42, 2, 4, 119, 1), (19, 10, 0, 1, 0, 0, 0), (20, 12, 14, 0, 0, 0, 0), (21, 70, 0, 0, 0, 0, 0)]
def am_t25 : List (Nat × am_I) := [(0, 3, 0, 0, 0, 0, 0), (1, 1, 1, 0, 0, 0, 0), (2, 60, 30, 2, 2, 36, 1), (5, 7, 3, 0, 0, 0, 0), (6, 3, 3, 0, 0, 0, 0), (7, 30, 12, 0, 0, 0, 0), (10, 10, 0, 0, 1, 0, 0), (11, 70, 0, 0, 0, 0, 0), (12, 3, 0, 0, 0, 0, 0), (13, 3, 3, 0, 0, 0, 0), (14, 60, 42, 2, 4, 119, 1), (17, 6, 4, 0, 0, 0, 0), (19, 1, 2, 0, 0, 0, 0), (20, 25, 38, 2, 0, 0, 0), (23, 1, 2, 0, 0, 0, 0), (24, 2, 4, 0, 0, 0, 0), (26, 26, 38, 3, 0, 0, 0), (29, 1, 2, 0, 0, 0, 0), (30, 3, 0, 0, 0, 0, 0), (31, 42, 1, 2, 0, 22, 0), (34, 32, 0, 0, 0, 0, 0), (35, 26, 43, 2, 0, 0, 0), (38, 11, 0, 0, 2, 0, 0), (40, 24, 49, 0, 0, 0, 0), (43, 3, 0, 0, 0, 0, 0), (44, 42, 1, 2, 0, 22, 0), (47, 1, 2, 0, 0, 0, 0), (48, 33, 10, 0, 0, 0, 0), (49, 70, 0, 0, 0, 0, 0)]
def am_t26 : List (Nat × am_I) := [(0, 3, 0, 0, 0, 0, 0), (1, 1, 1, 0, 0, 0, 0), (2, 60, 30, 2, 2, 36, 1), (5, 7, 2, 0, 0, 0, 0), (6, 3, 2, 0, 0, 0, 0), (7, 30, 14, 0, 0, 0, 0), (10, 10, 0, 0, 1, 0, 0), (11, 24, 21, 0, 0, 0, 0), (14, 3, 2, 0, 0, 0, 0), (15, 60, 114, 1, 2, 150, 2), (18, 41, 2, 0, 0, 84, 0), (21, 70, 0, 0, 0, 0, 0)]
def am_t27 : List (Nat × am_I) := [(0, 3, 0, 0, 0, 0, 0), (1, 1, 1, 0, 0, 0, 0), (2, 60, 30, 2, 2, 36, 1), (5, 7, 3, 0, 0, 0, 0), (6, 3, 0, 0, 0, 0, 0), (7, 1, 2, 0, 0, 0, 0), (8, 60, 30, 2, 2, 36, 1), (11, 8, 4, 0, 0, 0, 0), (13, 3, 3, 0, 0, 0, 0), (14, 29, 22, 0, 0, 0, 0), (17, 4, 4, 0, 0, 0, 0), (19, 30, 24, 0, 0, 0, 0), (22, 10, 0, 0, 1, 0, 0), (23, 70, 0, 0, 0, 0, 0), (24, 4, 4, 0, 0, 0, 0), (26, 3, 3, 0, 0, 0, 0), (27, 60, 113, 2, 3, 59, 2), (30, 25, 37, 0, 0, 0, 0), (33, 10, 0, 1, 0, 0, 0), (34, 24, 38, 0, 0, 0, 0), (37, 10, 0, 0, 0, 0, 0), (38, 70, 0, 0, 0, 0, 0)]
def am_t28 : List (Nat × am_I) := [(0, 3, 0, 0, 0, 0, 0), (1, 42, 1, 1, 0, 18, 0), (4, 1, 1, 0, 0, 0, 0), (5, 1, 2, 0, 0, 0, 0), (6, 60, 95, 3, 3, 154, 3), (9, 70, 0, 0, 0, 0, 0)]
def am_t29 : List (Nat × am_I) := [(0, 1, 1, 0, 0, 0, 0), (1, 50, 0, 0, 0, 0, 0), (28, 3, 0, 0, 0, 0, 0), (29, 60, 43, 1, 6, 158, 1), (32, 70, 0, 0, 0, 0, 0), (33, 3, 0, 0, 0, 0, 0), (34, 42, 1, 1, 0, 18, 0), (37, 41, 3, 1, 0, 162, 0), (40, 70, 0, 0, 0, 0, 0), (41, 3, 0, 0, 0, 0, 0), (42, 60, 44, 1, 6, 165, 1), (45, 70, 0, 0, 0, 0, 0), (46, 11, 0, 0, 2, 0, 0), (48, 70, 0, 0, 0, 0, 0)]
def am_t30 : List (Nat × am_I) := [(0, 1, 1, 0, 0, 0, 0), (1, 25, 13, 2, 0, 0, 0), (4, 1, 1, 0, 0, 0, 0), (5, 3, 0, 0, 0, 0, 0), (6, 42, 1, 0, 0, 11, 0), (9, 32, 0, 0, 0, 0, 0), (10, 26, 17, 2, 0, 0, 0), (13, 31, 2, 0, 0, 0, 0), (14, 24, 23, 0, 0, 0, 0), (17, 3, 0, 0, 0, 0, 0), (18, 42, 1, 0, 0, 11, 0), (21, 1, 1, 0, 0, 0, 0), (22, 37, 14, 0, 0, 0, 0), (23, 72, 0, 0, 0, 0, 0)]
def am_t31 : List (Nat × am_I) := [(0, 3, 0, 0, 0, 0, 0), (1, 30, 9, 0, 0, 0, 0), (4, 11, 0, 0, 8, 0, 0), (6, 24, 13, 0, 0, 0, 0), (9, 3, 0, 0, 0, 0, 0), (10, 41, 2, 0, 0, 84, 0), (13, 70, 0, 0, 0, 0, 0)]
def am_t32 : List (Nat × am_I) := [(0, 3, 1, 0, 0, 0, 0), (1, 42, 2, 3, 0, 103, 0), (4, 30, 9, 0, 0, 0, 0), (7, 10, 0, 0, 0, 0, 0), (8, 70, 0, 0, 0, 0, 0), (9, 3, 0, 0, 0, 0, 0), (10, 3, 1, 0, 0, 0, 0), (11, 60, 36, 2, 2, 168, 1), (14, 10, 0, 1, 0, 0, 0), (15, 70, 0, 0, 0, 0, 0)]
def am_t33 : List (Nat × am_I) := [(0, 3, 2, 0, 0, 0, 0), (1, 1, 3, 0, 0, 0, 0), (2, 60, 109, 2, 2, 55, 2), (5, 25, 16, 0, 0, 0, 0), (8, 3, 1, 0, 0, 0, 0), (9, 1, 3, 0, 0, 0, 0), (10, 60, 108, 2, 2, 87, 2), (13, 25, 19, 1, 0, 0, 0), (16, 11, 0, 0, 3, 0, 0), (18, 70, 0, 0, 0, 0, 0), (19, 3, 1, 0, 0, 0, 0), (20, 3, 2, 0, 0, 0, 0), (21, 1, 3, 0, 0, 0, 0), (22, 60, 110, 3, 3, 90, 2), (25, 25, 30, 0, 0, 0, 0), (28, 10, 0, 0, 0, 0, 0), (29, 70, 0, 0, 0, 0, 0), (30, 3, 2, 0, 0, 0, 0), (31, 3, 1, 0, 0, 0, 0), (32, 60, 113, 2, 3, 59, 2), (35, 25, 41, 0, 0, 0, 0), (38, 11, 0, 0, 4, 0, 0), (40, 70, 0, 0, 0, 0, 0), (41, 1, 3, 0, 0, 0, 0), (42, 10, 0, 3, 0, 0, 0), (43, 26, 54, 0, 0, 0, 0), (46, 3, 0, 0, 0, 0, 0), (47, 3, 1, 0, 0, 0, 0), (48, 3, 2, 0, 0, 0, 0), (49, 1, 3, 0, 0, 0, 0), (50, 60, 34, 4, 4, 100, 1), (53, 70, 0, 0, 0, 0, 0), (54, 3, 0, 0, 0, 0, 0), (55, 3, 1, 0, 0, 0, 0), (56, 3, 2, 0, 0, 0, 0), (57, 1, 3, 0, 0, 0, 0), (58, 60, 35, 4, 4, 63, 1), (61, 10, 0, 1, 0, 0, 0), (62, 70, 0, 0, 0, 0, 0)]
def am_t34 : List (Nat × am_I) := [(0, 3, 2, 0, 0, 0, 0), (1, 60, 112, 1, 3, 107, 2), (4, 25, 10, 0, 0, 0, 0), (7, 11, 0, 0, 5, 0, 0), (9, 70, 0, 0, 0, 0, 0), (10, 3, 0, 0, 0, 0, 0), (11, 3, 1, 0, 0, 0, 0), (12, 3, 2, 0, 0, 0, 0), (13, 1, 3, 0, 0, 0, 0), (14, 60, 35, 4, 4, 63, 1), (17, 10, 0, 1, 0, 0, 0), (18, 70, 0, 0, 0, 0, 0)]
def am_t35 : List (Nat × am_I) := [(0, 3, 0, 0, 0, 0, 0), (1, 42, 1, 1, 0, 18, 0), (4, 3, 1, 0, 0, 0, 0), (5, 41, 2, 0, 0, 84, 0), (8, 3, 1, 0, 0, 0, 0), (9, 42, 2, 3, 0, 103, 0), (12, 61, 31, 1, 1, 141, 0), (15, 3, 2, 0, 0, 0, 0), (16, 41, 2, 0, 0, 84, 0), (19, 1, 3, 0, 0, 0, 0), (20, 60, 94, 5, 6, 171, 3), (23, 3, 1, 0, 0, 0, 0), (24, 60, 117, 1, 1, 122, 2), (27, 3, 1, 0, 0, 0, 0), (28, 3, 2, 0, 0, 0, 0), (29, 1, 3, 0, 0, 0, 0), (30, 60, 116, 3, 3, 175, 2), (33, 73, 0, 0, 0, 0, 0)]
def am_t36 : List (Nat × am_I) := [(0, 3, 0, 0, 0, 0, 0), (1, 42, 1, 1, 0, 18, 0), (4, 3, 1, 0, 0, 0, 0), (5, 41, 2, 0, 0, 84, 0), (8, 3, 1, 0, 0, 0, 0), (9, 42, 2, 3, 0, 103, 0), (12, 61, 31, 1, 1, 141, 0), (15, 11, 0, 0, 8, 0, 0), (17, 11, 0, 0, 8, 0, 0), (19, 60, 94, 5, 6, 171, 3), (22, 3, 1, 0, 0, 0, 0), (23, 60, 117, 1, 1, 122, 2), (26, 73, 0, 0, 0, 0, 0)]
def am_t37 : List (Nat × am_I) := [(0, 3, 0, 0, 0, 0, 0), (1, 41, 2, 11, 0, 179, 0), (4, 1, 1, 0, 0, 0, 0), (5, 26, 10, 1, 0, 0, 0), (8, 10, 0, 0, 0, 0, 0), (9, 70, 0, 0, 0, 0, 0), (10, 3, 0, 0, 0, 0, 0), (11, 1, 1, 0, 0, 0, 0), (12, 44, 2, 11, 0, 179, 0), (15, 10, 0, 1, 0, 0, 0), (16, 70, 0, 0, 0, 0, 0)]
def am_t38 : List (Nat × am_I) := [(0, 3, 1, 0, 0, 0, 0), (1, 42, 2, 3, 0, 103, 0), (4, 29, 25, 0, 0, 0, 0), (7, 3, 0, 0, 0, 0, 0), (8, 3, 1, 0, 0, 0, 0), (9, 42, 2, 3, 0, 103, 0), (12, 41, 2, 0, 0, 84, 0), (15, 60, 30, 2, 2, 36, 1), (18, 30, 25, 0, 0, 0, 0), (21, 10, 0, 1, 0, 0, 0), (22, 24, 26, 0, 0, 0, 0), (25, 10, 0, 0, 0, 0, 0), (26, 71, 0, 0, 0, 0, 0)]
def am_t39 : List (Nat × am_I) := [(0, 3, 1, 0, 0, 0, 0), (1, 41, 2, 4, 0, 110, 0), (4, 10, 0, 4, 0, 0, 0), (5, 26, 15, 0, 0, 0, 0), (8, 3, 0, 0, 0, 0, 0), (9, 3, 1, 0, 0, 0, 0), (10, 60, 36, 2, 2, 168, 1), (13, 10, 0, 0, 0, 0, 0), (14, 70, 0, 0, 0, 0, 0), (15, 3, 0, 0, 0, 0, 0), (16, 3, 1, 0, 0, 0, 0), (17, 60, 40, 2, 2, 125, 1), (20, 10, 0, 1, 0, 0, 0), (21, 70, 0, 0, 0, 0, 0)]
def am_t40 : List (Nat × am_I) := [(0, 3, 1, 0, 0, 0, 0), (1, 41, 2, 0, 0, 84, 0), (4, 25, 29, 2, 0, 0, 0), (7, 3, 1, 0, 0, 0, 0), (8, 41, 2, 0, 0, 84, 0), (11, 3, 0, 0, 0, 0, 0), (12, 42, 1, 0, 0, 11, 0), (15, 32, 0, 0, 0, 0, 0), (16, 26, 29, 3, 0, 0, 0), (19, 3, 0, 0, 0, 0, 0), (20, 42, 1, 0, 0, 11, 0), (23, 3, 1, 0, 0, 0, 0), (24, 41, 2, 0, 0, 84, 0), (27, 31, 2, 0, 0, 0, 0), (28, 38, 14, 0, 0, 0, 0), (29, 73, 0, 0, 0, 0, 0)]
def am_t41 : List (Nat × am_I) := [(0, 3, 0, 0, 0, 0, 0), (1, 42, 1, 0, 0, 11, 0), (4, 7, 2, 0, 0, 0, 0), (5, 3, 2, 0, 0, 0, 0), (6, 32, 0, 0, 0, 0, 0), (7, 5, 3, 0, 0, 0, 0), (8, 10, 0, 0, 0, 0, 0), (9, 6, 4, 0, 0, 0, 0), (11, 2, 4, 0, 0, 0, 0), (13, 1, 3, 0, 0, 0, 0), (14, 26, 53, 3, 0, 0, 0), (17, 3, 2, 0, 0, 0, 0), (18, 2, 4, 0, 0, 0, 0), (20, 37, 14, 0, 0, 0, 0), (21, 8, 5, 0, 0, 0, 0), (23, 4, 5, 0, 0, 0, 0), (25, 29, 47, 0, 0, 0, 0), (28, 4, 5, 0, 0, 0, 0), (30, 41, 2, 11, 0, 179, 0), (33, 25, 47, 0, 0, 0, 0), (36, 3, 1, 0, 0, 0, 0), (37, 4, 5, 0, 0, 0, 0), (39, 61, 97, 2, 2, 135, 0), (42, 25, 47, 5, 0, 0, 0), (45, 10, 0, 1, 0, 0, 0), (46, 71, 0, 0, 0, 0, 0), (47, 9, 4, 1, 0, 0, 0), (50, 24, 11, 0, 0, 0, 0), (53, 10, 0, 0, 0, 0, 0), (54, 71, 0, 0, 0, 0, 0)]
def am_t42 : List (Nat × am_I) := [(0, 10, 0, 0, 0, 0, 0), (1, 5, 2, 0, 0, 0, 0), (2, 3, 1, 0, 0, 0, 0), (3, 7, 3, 0, 0, 0, 0), (4, 3, 3, 0, 0, 0, 0), (5, 29, 39, 0, 0, 0, 0), (8, 1, 2, 0, 0, 0, 0), (9, 3, 0, 0, 0, 0, 0), (10, 42, 1, 2, 0, 22, 0), (13, 32, 0, 0, 0, 0, 0), (14, 26, 39, 3, 0, 0, 0), (17, 3, 0, 0, 0, 0, 0), (18, 42, 1, 2, 0, 22, 0), (21, 1, 2, 0, 0, 0, 0), (22, 3, 3, 0, 0, 0, 0), (23, 41, 2, 0, 0, 84, 0), (26, 34, 10, 0, 0, 0, 0), (27, 9, 2, 1, 0, 0, 0), (30, 3, 3, 0, 0, 0, 0), (31, 3, 1, 0, 0, 0, 0), (32, 60, 115, 2, 3, 182, 2), (35, 7, 3, 0, 0, 0, 0), (36, 24, 4, 0, 0, 0, 0), (39, 1, 2, 0, 0, 0, 0), (40, 70, 0, 0, 0, 0, 0)]
def am_t43 : List (Nat × am_I) := [(0, 10, 0, 0, 0, 0, 0), (1, 5, 1, 0, 0, 0, 0), (2, 3, 0, 0, 0, 0, 0), (3, 42, 1, 0, 0, 11, 0), (6, 7, 2, 0, 0, 0, 0), (7, 3, 2, 0, 0, 0, 0), (8, 32, 0, 0, 0, 0, 0), (9, 5, 3, 0, 0, 0, 0), (10, 10, 0, 0, 0, 0, 0), (11, 6, 4, 0, 0, 0, 0), (13, 2, 4, 0, 0, 0, 0), (15, 1, 3, 0, 0, 0, 0), (16, 26, 39, 3, 0, 0, 0), (19, 3, 2, 0, 0, 0, 0), (20, 2, 4, 0, 0, 0, 0), (22, 37, 14, 0, 0, 0, 0), (23, 8, 5, 0, 0, 0, 0), (25, 4, 5, 0, 0, 0, 0), (27, 29, 33, 0, 0, 0, 0), (30, 9, 1, 1, 0, 0, 0), (33, 9, 4, 1, 0, 0, 0), (36, 24, 13, 0, 0, 0, 0), (39, 1, 1, 0, 0, 0, 0), (40, 70, 0, 0, 0, 0, 0)]
def am_t44 : List (Nat × am_I) := [(0, 10, 0, 0, 0, 0, 0), (1, 5, 1, 0, 0, 0, 0), (2, 3, 0, 0, 0, 0, 0), (3, 42, 1, 0, 0, 11, 0), (6, 7, 2, 0, 0, 0, 0), (7, 3, 2, 0, 0, 0, 0), (8, 32, 0, 0, 0, 0, 0), (9, 5, 3, 0, 0, 0, 0), (10, 10, 0, 0, 0, 0, 0), (11, 6, 4, 0, 0, 0, 0), (13, 2, 4, 0, 0, 0, 0), (15, 1, 3, 0, 0, 0, 0), (16, 26, 55, 3, 0, 0, 0), (19, 3, 2, 0, 0, 0, 0), (20, 2, 4, 0, 0, 0, 0), (22, 37, 14, 0, 0, 0, 0), (23, 8, 5, 0, 0, 0, 0), (25, 4, 5, 0, 0, 0, 0), (27, 29, 49, 0, 0, 0, 0), (30, 4, 5, 0, 0, 0, 0), (32, 60, 105, 1, 1, 186, 2), (35, 25, 49, 0, 0, 0, 0), (38, 4, 5, 0, 0, 0, 0), (40, 42, 2, 3, 0, 103, 0), (43, 30, 49, 0, 0, 0, 0), (46, 9, 1, 1, 0, 0, 0), (49, 9, 4, 1, 0, 0, 0), (52, 24, 13, 0, 0, 0, 0), (55, 1, 1, 0, 0, 0, 0), (56, 70, 0, 0, 0, 0, 0)]
def am_t45 : List (Nat × am_I) := [(0, 3, 0, 0, 0, 0, 0), (1, 49, 0, 0, 0, 1, 0), (4, 3, 0, 0, 0, 0, 0), (5, 11, 0, 20, 0, 0, 0), (7, 39, 20, 0, 0, 0, 0), (9, 45, 4, 2, 0, 7, 0), (12, 3, 0, 0, 0, 0, 0), (13, 11, 0, 20, 0, 0, 0), (15, 39, 20, 0, 0, 0, 0), (17, 45, 4, 3, 0, 13, 0), (20, 3, 0, 0, 0, 0, 0), (21, 11, 0, 20, 0, 0, 0), (23, 39, 20, 0, 0, 0, 0), (25, 45, 4, 5, 0, 16, 0), (28, 3, 0, 0, 0, 0, 0), (29, 11, 0, 20, 0, 0, 0), (31, 39, 20, 0, 0, 0, 0), (33, 45, 4, 6, 0, 19, 0), (36, 3, 0, 0, 0, 0, 0), (37, 11, 0, 20, 0, 0, 0), (39, 39, 20, 0, 0, 0, 0), (41, 45, 4, 7, 0, 22, 0), (44, 3, 0, 0, 0, 0, 0), (45, 11, 0, 20, 0, 0, 0), (47, 39, 23, 0, 0, 0, 0), (49, 45, 4, 8, 0, 25, 0), (52, 3, 0, 0, 0, 0, 0), (53, 11, 0, 20, 0, 0, 0), (55, 39, 23, 0, 0, 0, 0), (57, 45, 4, 9, 0, 29, 0), (60, 3, 0, 0, 0, 0, 0), (61, 11, 0, 20, 0, 0, 0), (63, 39, 23, 0, 0, 0, 0), (65, 45, 4, 10, 0, 32, 0), (68, 3, 0, 0, 0, 0, 0), (69, 11, 0, 20, 0, 0, 0), (71, 39, 23, 0, 0, 0, 0), (73, 45, 4, 11, 0, 35, 0), (76, 3, 0, 0, 0, 0, 0), (77, 11, 0, 20, 0, 0, 0), (79, 39, 20, 0, 0, 0, 0), (81, 45, 4, 12, 0, 38, 0), (84, 3, 0, 0, 0, 0, 0), (85, 11, 0, 20, 0, 0, 0), (87, 39, 23, 0, 0, 0, 0), (89, 45, 4, 13, 0, 41, 0), (92, 3, 0, 0, 0, 0, 0), (93, 11, 0, 120, 0, 0, 0), (95, 39, 21, 0, 0, 0, 0), (97, 45, 4, 14, 0, 44, 0), (100, 3, 0, 0, 0, 0, 0), (101, 11, 0, 20, 0, 0, 0), (103, 39, 20, 0, 0, 0, 0), (105, 45, 4, 16, 0, 47, 0), (108, 3, 0, 0, 0, 0, 0), (109, 11, 0, 20, 0, 0, 0), (111, 39, 20, 0, 0, 0, 0), (113, 45, 4, 17, 0, 50, 0), (116, 3, 0, 0, 0, 0, 0), (117, 11, 0, 21, 0, 0, 0), (119, 39, 22, 0, 0, 0, 0), (121, 45, 4, 18, 0, 53, 0), (124, 73, 0, 0, 0, 0, 0)]
def am_t46 : List (Nat × am_I) := [(0, 3, 0, 0, 0, 0, 0), (1, 10, 0, 0, 0, 0, 0), (2, 43, 4, 0, 0, 56, 0), (5, 3, 0, 0, 0, 0, 0), (6, 10, 0, 0, 0, 0, 0), (7, 43, 4, 1, 0, 60, 0), (10, 3, 0, 0, 0, 0, 0), (11, 10, 0, 0, 0, 0, 0), (12, 43, 4, 4, 0, 63, 0), (15, 3, 0, 0, 0, 0, 0), (16, 10, 0, 0, 0, 0, 0), (17, 43, 4, 15, 0, 66, 0), (20, 73, 0, 0, 0, 0, 0)]
def am_t47 : List (Nat × am_I) := [(0, 3, 0, 0, 0, 0, 0), (1, 41, 4, 4, 0, 63, 0), (4, 10, 0, 1, 0, 0, 0), (5, 12, 14, 0, 0, 0, 0), (6, 5, 2, 0, 0, 0, 0), (7, 1, 2, 0, 0, 0, 0), (8, 25, 27, 2, 0, 0, 0), (11, 3, 0, 0, 0, 0, 0), (12, 42, 4, 2, 0, 7, 0), (15, 1, 2, 0, 0, 0, 0), (16, 33, 20, 0, 0, 0, 0), (17, 1, 1, 0, 0, 0, 0), (18, 26, 27, 0, 0, 0, 0), (21, 9, 2, 0, 1, 0, 0), (24, 24, 7, 0, 0, 0, 0), (27, 1, 2, 0, 0, 0, 0), (28, 70, 0, 0, 0, 0, 0)]
def am_t48 : List (Nat × am_I) := [(0, 1, 1, 0, 0, 0, 0), (1, 25, 16, 2, 0, 0, 0), (4, 3, 0, 0, 0, 0, 0), (5, 1, 1, 0, 0, 0, 0), (6, 60, 47, 2, 3, 69, 4), (9, 25, 16, 2, 0, 0, 0), (12, 10, 0, 1, 0, 0, 0), (13, 24, 17, 0, 0, 0, 0), (16, 10, 0, 0, 0, 0, 0), (17, 71, 0, 0, 0, 0, 0)]
def am_t49 : List (Nat × am_I) := [(0, 3, 0, 0, 0, 0, 0), (1, 42, 4, 5, 0, 16, 0), (4, 1, 1, 0, 0, 0, 0), (5, 33, 20, 0, 0, 0, 0), (6, 1, 2, 0, 0, 0, 0), (7, 26, 14, 1, 0, 0, 0), (10, 10, 0, 1, 0, 0, 0), (11, 24, 15, 0, 0, 0, 0), (14, 10, 0, 0, 0, 0, 0), (15, 71, 0, 0, 0, 0, 0)]
def am_t50 : List (Nat × am_I) := [(0, 1, 1, 0, 0, 0, 0), (1, 10, 0, 1, 0, 0, 0), (2, 12, 13, 0, 0, 0, 0), (3, 5, 2, 0, 0, 0, 0), (4, 1, 2, 0, 0, 0, 0), (5, 3, 0, 0, 0, 0, 0), (6, 41, 4, 4, 0, 63, 0), (9, 26, 33, 3, 0, 0, 0), (12, 3, 0, 0, 0, 0, 0), (13, 42, 4, 3, 0, 13, 0), (16, 1, 2, 0, 0, 0, 0), (17, 33, 20, 0, 0, 0, 0), (18, 3, 0, 0, 0, 0, 0), (19, 42, 4, 3, 0, 13, 0), (22, 1, 1, 0, 0, 0, 0), (23, 33, 20, 0, 0, 0, 0), (24, 26, 33, 5, 0, 0, 0), (27, 9, 2, 1, 0, 0, 0), (30, 24, 4, 0, 0, 0, 0), (33, 1, 2, 0, 0, 0, 0), (34, 70, 0, 0, 0, 0, 0)]
def am_t51 : List (Nat × am_I) := [(0, 3, 0, 0, 0, 0, 0), (1, 1, 1, 0, 0, 0, 0), (2, 60, 47, 2, 3, 69, 4), (5, 5, 2, 0, 0, 0, 0), (6, 3, 0, 0, 0, 0, 0), (7, 42, 4, 3, 0, 13, 0), (10, 1, 2, 0, 0, 0, 0), (11, 33, 20, 0, 0, 0, 0), (12, 25, 17, 1, 0, 0, 0), (15, 10, 0, 0, 1, 0, 0), (16, 70, 0, 0, 0, 0, 0), (17, 1, 2, 0, 0, 0, 0), (18, 5, 3, 0, 0, 0, 0), (19, 3, 0, 0, 0, 0, 0), (20, 42, 4, 3, 0, 13, 0), (23, 1, 3, 0, 0, 0, 0), (24, 33, 20, 0, 0, 0, 0), (25, 3, 0, 0, 0, 0, 0), (26, 42, 4, 3, 0, 13, 0), (29, 1, 2, 0, 0, 0, 0), (30, 33, 20, 0, 0, 0, 0), (31, 26, 40, 2, 0, 0, 0), (34, 9, 3, 0, 1, 0, 0), (37, 24, 19, 0, 0, 0, 0), (40, 3, 0, 0, 0, 0, 0), (41, 42, 4, 2, 0, 7, 0), (44, 1, 3, 0, 0, 0, 0), (45, 33, 20, 0, 0, 0, 0), (46, 70, 0, 0, 0, 0, 0)]
def am_t52 : List (Nat × am_I) := [(0, 3, 0, 0, 0, 0, 0), (1, 1, 1, 0, 0, 0, 0), (2, 60, 47, 2, 3, 69, 4), (5, 5, 2, 0, 0, 0, 0), (6, 3, 0, 0, 0, 0, 0), (7, 42, 4, 3, 0, 13, 0), (10, 1, 2, 0, 0, 0, 0), (11, 33, 20, 0, 0, 0, 0), (12, 25, 21, 5, 0, 0, 0), (15, 9, 2, 0, 1, 0, 0), (18, 24, 6, 0, 0, 0, 0), (21, 3, 0, 0, 0, 0, 0), (22, 42, 4, 2, 0, 7, 0), (25, 1, 2, 0, 0, 0, 0), (26, 33, 20, 0, 0, 0, 0), (27, 70, 0, 0, 0, 0, 0)]
def am_t53 : List (Nat × am_I) := [(0, 3, 0, 0, 0, 0, 0), (1, 1, 1, 0, 0, 0, 0), (2, 60, 47, 2, 3, 69, 4), (5, 5, 3, 0, 0, 0, 0), (6, 3, 0, 0, 0, 0, 0), (7, 1, 2, 0, 0, 0, 0), (8, 60, 47, 2, 3, 69, 4), (11, 6, 4, 0, 0, 0, 0), (13, 2, 4, 0, 0, 0, 0), (15, 1, 3, 0, 0, 0, 0), (16, 26, 33, 2, 0, 0, 0), (19, 2, 4, 0, 0, 0, 0), (21, 3, 0, 0, 0, 0, 0), (22, 1, 3, 0, 0, 0, 0), (23, 60, 50, 2, 3, 73, 4), (26, 26, 33, 3, 0, 0, 0), (29, 10, 0, 1, 0, 0, 0), (30, 24, 34, 0, 0, 0, 0), (33, 10, 0, 0, 0, 0, 0), (34, 71, 0, 0, 0, 0, 0)]
def am_t54 : List (Nat × am_I) := [(0, 3, 0, 0, 0, 0, 0), (1, 1, 1, 0, 0, 0, 0), (2, 60, 51, 2, 4, 76, 4), (5, 25, 22, 2, 0, 0, 0), (8, 3, 0, 0, 0, 0, 0), (9, 42, 4, 7, 0, 22, 0), (12, 1, 1, 0, 0, 0, 0), (13, 33, 20, 0, 0, 0, 0), (14, 10, 0, 4, 0, 0, 0), (15, 26, 22, 1, 0, 0, 0), (18, 10, 0, 1, 0, 0, 0), (19, 24, 23, 0, 0, 0, 0), (22, 10, 0, 0, 0, 0, 0), (23, 71, 0, 0, 0, 0, 0)]
def am_t55 : List (Nat × am_I) := [(0, 3, 0, 0, 0, 0, 0), (1, 1, 1, 0, 0, 0, 0), (2, 60, 51, 2, 4, 76, 4), (5, 1, 2, 0, 0, 0, 0), (6, 26, 23, 1, 0, 0, 0), (9, 3, 0, 0, 0, 0, 0), (10, 42, 4, 7, 0, 22, 0), (13, 1, 1, 0, 0, 0, 0), (14, 33, 20, 0, 0, 0, 0), (15, 1, 3, 0, 0, 0, 0), (16, 26, 23, 1, 0, 0, 0), (19, 10, 0, 1, 0, 0, 0), (20, 24, 24, 0, 0, 0, 0), (23, 10, 0, 0, 0, 0, 0), (24, 71, 0, 0, 0, 0, 0)]
def am_t56 : List (Nat × am_I) := [(0, 3, 0, 0, 0, 0, 0), (1, 1, 1, 0, 0, 0, 0), (2, 60, 47, 2, 3, 69, 4), (5, 5, 2, 0, 0, 0, 0), (6, 10, 0, 0, 0, 0, 0), (7, 5, 3, 0, 0, 0, 0), (8, 1, 2, 0, 0, 0, 0), (9, 10, 0, 1, 0, 0, 0), (10, 12, 13, 0, 0, 0, 0), (11, 6, 4, 0, 0, 0, 0), (13, 2, 4, 0, 0, 0, 0), (15, 3, 0, 0, 0, 0, 0), (16, 1, 2, 0, 0, 0, 0), (17, 60, 50, 2, 3, 73, 4), (20, 26, 71, 3, 0, 0, 0), (23, 1, 3, 0, 0, 0, 0), (24, 3, 0, 0, 0, 0, 0), (25, 42, 4, 3, 0, 13, 0), (28, 2, 4, 0, 0, 0, 0), (30, 33, 20, 0, 0, 0, 0), (31, 3, 0, 0, 0, 0, 0), (32, 42, 4, 3, 0, 13, 0), (35, 1, 2, 0, 0, 0, 0), (36, 33, 20, 0, 0, 0, 0), (37, 10, 0, 1, 0, 0, 0), (38, 12, 13, 0, 0, 0, 0), (39, 26, 62, 1, 0, 0, 0), (42, 3, 0, 0, 0, 0, 0), (43, 42, 4, 7, 0, 22, 0), (46, 3, 0, 0, 0, 0, 0), (47, 42, 4, 2, 0, 7, 0), (50, 2, 4, 0, 0, 0, 0), (52, 33, 20, 0, 0, 0, 0), (53, 33, 20, 0, 0, 0, 0), (54, 10, 0, 3, 0, 0, 0), (55, 26, 62, 3, 0, 0, 0), (58, 10, 0, 1, 0, 0, 0), (59, 24, 63, 0, 0, 0, 0), (62, 10, 0, 0, 0, 0, 0), (63, 12, 13, 0, 0, 0, 0), (64, 5, 3, 0, 0, 0, 0), (65, 9, 4, 1, 0, 0, 0), (68, 24, 13, 0, 0, 0, 0), (71, 1, 3, 0, 0, 0, 0), (72, 3, 0, 0, 0, 0, 0), (73, 42, 4, 6, 0, 19, 0), (76, 1, 1, 0, 0, 0, 0), (77, 33, 20, 0, 0, 0, 0), (78, 26, 85, 2, 0, 0, 0), (81, 10, 0, 1, 0, 0, 0), (82, 24, 86, 0, 0, 0, 0), (85, 10, 0, 0, 0, 0, 0), (86, 71, 0, 0, 0, 0, 0)]
def am_t57_0 : List (Nat × am_I) := [(0, 10, 0, 4, 0, 0, 0), (1, 3, 0, 0, 0, 0, 0), (2, 41, 4, 15, 0, 66, 0), (5, 11, 0, 30, 0, 0, 0), (7, 12, 16, 0, 0, 0, 0), (8, 12, 15, 0, 0, 0, 0), (9, 6, 4, 0, 0, 0, 0), (11, 3, 0, 0, 0, 0, 0), (12, 42, 4, 14, 0, 44, 0), (15, 2, 4, 0, 0, 0, 0), (17, 1, 1, 0, 0, 0, 0), (18, 34, 21, 0, 0, 0, 0), (19, 3, 0, 0, 0, 0, 0), (20, 42, 4, 14, 0, 44, 0), (23, 2, 4, 0, 0, 0, 0), (25, 10, 0, 1, 0, 0, 0), (26, 12, 13, 0, 0, 0, 0), (27, 3, 0, 0, 0, 0, 0), (28, 1, 1, 0, 0, 0, 0), (29, 60, 51, 2, 4, 76, 4), (32, 34, 21, 0, 0, 0, 0), (33, 3, 0, 0, 0, 0, 0), (34, 42, 4, 14, 0, 44, 0), (37, 2, 4, 0, 0, 0, 0), (39, 10, 0, 2, 0, 0, 0), (40, 12, 13, 0, 0, 0, 0), (41, 1, 2, 0, 0, 0, 0), (42, 34, 21, 0, 0, 0, 0), (43, 3, 0, 0, 0, 0, 0), (44, 42, 4, 14, 0, 44, 0), (47, 2, 4, 0, 0, 0, 0), (49, 10, 0, 3, 0, 0, 0), (50, 12, 13, 0, 0, 0, 0), (51, 1, 2, 0, 0, 0, 0), (52, 25, 59, 3, 0, 0, 0), (55, 10, 0, 0, 1, 0, 0), (56, 24, 60, 0, 0, 0, 0), (59, 1, 3, 0, 0, 0, 0), (60, 34, 21, 0, 0, 0, 0), (61, 3, 0, 0, 0, 0, 0)]
def am_t57_1 : List (Nat × am_I) := [(62, 21, 0, 0, 0, 0, 0), (63, 41, 4, 15, 0, 66, 0), (66, 10, 0, 1, 0, 0, 0), (67, 12, 13, 0, 0, 0, 0), (68, 43, 4, 15, 0, 66, 0), (71, 3, 0, 0, 0, 0, 0), (72, 1, 1, 0, 0, 0, 0), (73, 60, 47, 2, 3, 69, 4), (76, 6, 5, 0, 0, 0, 0), (78, 3, 0, 0, 0, 0, 0), (79, 2, 5, 0, 0, 0, 0), (81, 60, 50, 2, 3, 73, 4), (84, 2, 5, 0, 0, 0, 0), (86, 12, 14, 0, 0, 0, 0), (87, 6, 6, 0, 0, 0, 0), (89, 3, 0, 0, 0, 0, 0), (90, 42, 4, 3, 0, 13, 0), (93, 2, 5, 0, 0, 0, 0), (95, 33, 20, 0, 0, 0, 0), (96, 6, 7, 0, 0, 0, 0), (98, 10, 0, 0, 0, 0, 0), (99, 6, 8, 0, 0, 0, 0), (101, 2, 8, 0, 0, 0, 0), (103, 2, 6, 0, 0, 0, 0), (105, 26, 151, 3, 0, 0, 0), (108, 3, 0, 0, 0, 0, 0), (109, 42, 4, 16, 0, 47, 0), (112, 2, 8, 0, 0, 0, 0), (114, 3, 0, 0, 0, 0, 0), (115, 42, 4, 2, 0, 7, 0), (118, 2, 5, 0, 0, 0, 0), (120, 2, 8, 0, 0, 0, 0), (122, 12, 13, 0, 0, 0, 0), (123, 33, 20, 0, 0, 0, 0), (124, 34, 20, 0, 0, 0, 0), (125, 3, 0, 0, 0, 0, 0), (126, 42, 4, 17, 0, 50, 0), (129, 2, 8, 0, 0, 0, 0), (131, 3, 0, 0, 0, 0, 0), (132, 42, 4, 3, 0, 13, 0)]
def am_t57_2 : List (Nat × am_I) := [(135, 2, 5, 0, 0, 0, 0), (137, 2, 8, 0, 0, 0, 0), (139, 12, 13, 0, 0, 0, 0), (140, 33, 20, 0, 0, 0, 0), (141, 2, 7, 0, 0, 0, 0), (143, 12, 14, 0, 0, 0, 0), (144, 34, 20, 0, 0, 0, 0), (145, 9, 8, 1, 0, 0, 0), (148, 24, 101, 0, 0, 0, 0), (151, 3, 0, 0, 0, 0, 0), (152, 2, 5, 0, 0, 0, 0), (154, 2, 6, 0, 0, 0, 0), (156, 60, 58, 3, 4, 79, 4), (159, 3, 0, 0, 0, 0, 0), (160, 41, 4, 4, 0, 63, 0), (163, 6, 8, 0, 0, 0, 0), (165, 10, 0, 0, 0, 0, 0), (166, 6, 9, 0, 0, 0, 0), (168, 1, 2, 0, 0, 0, 0), (169, 25, 198, 2, 0, 0, 0), (172, 3, 0, 0, 0, 0, 0), (173, 1, 2, 0, 0, 0, 0), (174, 60, 47, 2, 3, 69, 4), (177, 6, 10, 0, 0, 0, 0), (179, 3, 0, 0, 0, 0, 0), (180, 2, 10, 0, 0, 0, 0), (182, 60, 50, 2, 3, 73, 4), (185, 6, 8, 0, 0, 0, 0), (187, 3, 0, 0, 0, 0, 0), (188, 42, 4, 3, 0, 13, 0), (191, 2, 10, 0, 0, 0, 0), (193, 33, 20, 0, 0, 0, 0), (194, 10, 0, 1, 0, 0, 0), (195, 12, 13, 0, 0, 0, 0), (196, 6, 9, 0, 0, 0, 0), (198, 3, 0, 0, 0, 0, 0), (199, 41, 4, 4, 0, 63, 0), (202, 10, 0, 1, 0, 0, 0), (203, 12, 14, 0, 0, 0, 0), (204, 6, 10, 0, 0, 0, 0)]
def am_t57_3 : List (Nat × am_I) := [(206, 2, 10, 0, 0, 0, 0), (208, 2, 8, 0, 0, 0, 0), (210, 26, 253, 2, 0, 0, 0), (213, 3, 0, 0, 0, 0, 0), (214, 42, 4, 2, 0, 7, 0), (217, 2, 10, 0, 0, 0, 0), (219, 2, 6, 0, 0, 0, 0), (221, 12, 13, 0, 0, 0, 0), (222, 3, 0, 0, 0, 0, 0), (223, 42, 4, 2, 0, 7, 0), (226, 2, 10, 0, 0, 0, 0), (228, 33, 20, 0, 0, 0, 0), (229, 34, 20, 0, 0, 0, 0), (230, 3, 0, 0, 0, 0, 0), (231, 42, 4, 3, 0, 13, 0), (234, 2, 10, 0, 0, 0, 0), (236, 2, 6, 0, 0, 0, 0), (238, 12, 13, 0, 0, 0, 0), (239, 3, 0, 0, 0, 0, 0), (240, 42, 4, 3, 0, 13, 0), (243, 2, 10, 0, 0, 0, 0), (245, 33, 20, 0, 0, 0, 0), (246, 34, 20, 0, 0, 0, 0), (247, 9, 10, 0, 1, 0, 0), (250, 24, 206, 0, 0, 0, 0), (253, 10, 0, 0, 0, 0, 0), (254, 6, 10, 0, 0, 0, 0), (256, 2, 10, 0, 0, 0, 0), (258, 2, 6, 0, 0, 0, 0), (260, 26, 306, 3, 0, 0, 0), (263, 3, 0, 0, 0, 0, 0), (264, 42, 4, 2, 0, 7, 0), (267, 2, 8, 0, 0, 0, 0), (269, 2, 10, 0, 0, 0, 0), (271, 12, 13, 0, 0, 0, 0), (272, 3, 0, 0, 0, 0, 0), (273, 42, 4, 16, 0, 47, 0), (276, 2, 10, 0, 0, 0, 0), (278, 33, 20, 0, 0, 0, 0), (279, 34, 20, 0, 0, 0, 0)]
def am_t57_4 : List (Nat × am_I) := [(280, 3, 0, 0, 0, 0, 0), (281, 42, 4, 3, 0, 13, 0), (284, 2, 8, 0, 0, 0, 0), (286, 2, 10, 0, 0, 0, 0), (288, 12, 13, 0, 0, 0, 0), (289, 3, 0, 0, 0, 0, 0), (290, 42, 4, 17, 0, 50, 0), (293, 2, 10, 0, 0, 0, 0), (295, 33, 20, 0, 0, 0, 0), (296, 2, 9, 0, 0, 0, 0), (298, 12, 13, 0, 0, 0, 0), (299, 34, 20, 0, 0, 0, 0), (300, 9, 10, 1, 0, 0, 0), (303, 24, 256, 0, 0, 0, 0), (306, 3, 0, 0, 0, 0, 0), (307, 21, 0, 0, 0, 0, 0), (308, 41, 4, 4, 0, 63, 0), (311, 2, 6, 0, 0, 0, 0), (313, 12, 13, 0, 0, 0, 0), (314, 43, 4, 4, 0, 63, 0), (317, 3, 0, 0, 0, 0, 0), (318, 42, 4, 7, 0, 22, 0), (321, 1, 1, 0, 0, 0, 0), (322, 1, 3, 0, 0, 0, 0), (323, 34, 20, 0, 0, 0, 0), (324, 73, 0, 0, 0, 0, 0)]
def am_t57 : List (Nat × am_I) := am_t57_0 ++ (am_t57_1 ++ (am_t57_2 ++ (am_t57_3 ++ (am_t57_4))))
def am_t58 : List (Nat × am_I) := [(0, 1, 1, 0, 0, 0, 0), (1, 1, 2, 0, 0, 0, 0), (2, 12, 13, 0, 0, 0, 0), (3, 5, 3, 0, 0, 0, 0), (4, 1, 3, 0, 0, 0, 0), (5, 3, 0, 0, 0, 0, 0), (6, 41, 4, 4, 0, 63, 0), (9, 26, 46, 3, 0, 0, 0), (12, 3, 0, 0, 0, 0, 0), (13, 42, 4, 2, 0, 7, 0), (16, 1, 3, 0, 0, 0, 0), (17, 1, 2, 0, 0, 0, 0), (18, 12, 14, 0, 0, 0, 0), (19, 3, 0, 0, 0, 0, 0), (20, 42, 4, 2, 0, 7, 0), (23, 1, 3, 0, 0, 0, 0), (24, 33, 20, 0, 0, 0, 0), (25, 34, 20, 0, 0, 0, 0), (26, 3, 0, 0, 0, 0, 0), (27, 42, 4, 3, 0, 13, 0), (30, 1, 3, 0, 0, 0, 0), (31, 1, 2, 0, 0, 0, 0), (32, 12, 14, 0, 0, 0, 0), (33, 3, 0, 0, 0, 0, 0), (34, 42, 4, 3, 0, 13, 0), (37, 1, 3, 0, 0, 0, 0), (38, 33, 20, 0, 0, 0, 0), (39, 34, 20, 0, 0, 0, 0), (40, 9, 3, 1, 0, 0, 0), (43, 24, 4, 0, 0, 0, 0), (46, 3, 0, 0, 0, 0, 0), (47, 21, 0, 0, 0, 0, 0), (48, 41, 4, 4, 0, 63, 0), (51, 1, 2, 0, 0, 0, 0), (52, 12, 14, 0, 0, 0, 0), (53, 43, 4, 4, 0, 63, 0), (56, 73, 0, 0, 0, 0, 0)]
def am_t59 : List (Nat × am_I) := [(0, 3, 0, 0, 0, 0, 0), (1, 1, 2, 0, 0, 0, 0), (2, 10, 0, 2, 0, 0, 0), (3, 60, 49, 3, 3, 83, 4), (6, 25, 47, 0, 0, 0, 0), (9, 3, 0, 0, 0, 0, 0), (10, 42, 4, 7, 0, 22, 0), (13, 1, 3, 0, 0, 0, 0), (14, 33, 20, 0, 0, 0, 0), (15, 25, 47, 1, 0, 0, 0), (18, 3, 0, 0, 0, 0, 0), (19, 42, 4, 8, 0, 25, 0), (22, 1, 2, 0, 0, 0, 0), (23, 35, 23, 0, 0, 0, 0), (24, 25, 45, 0, 0, 0, 0), (27, 2, 4, 0, 0, 0, 0), (29, 25, 41, 1, 0, 0, 0), (32, 3, 0, 0, 0, 0, 0), (33, 42, 4, 9, 0, 29, 0), (36, 1, 2, 0, 0, 0, 0), (37, 35, 23, 0, 0, 0, 0), (38, 25, 45, 1, 0, 0, 0), (41, 10, 0, 1, 0, 0, 0), (42, 24, 46, 0, 0, 0, 0), (45, 10, 0, 0, 0, 0, 0), (46, 71, 0, 0, 0, 0, 0), (47, 2, 4, 0, 0, 0, 0), (49, 25, 90, 0, 0, 0, 0), (52, 3, 0, 0, 0, 0, 0), (53, 1, 2, 0, 0, 0, 0), (54, 10, 0, 4, 0, 0, 0), (55, 60, 49, 3, 3, 83, 4), (58, 25, 90, 0, 0, 0, 0), (61, 1, 2, 0, 0, 0, 0), (62, 1, 1, 0, 0, 0, 0), (63, 26, 90, 0, 0, 0, 0), (66, 3, 0, 0, 0, 0, 0), (67, 42, 4, 7, 0, 22, 0), (70, 1, 3, 0, 0, 0, 0), (71, 33, 20, 0, 0, 0, 0), (72, 10, 0, 2, 0, 0, 0), (73, 26, 86, 0, 0, 0, 0), (76, 3, 0, 0, 0, 0, 0), (77, 42, 4, 7, 0, 22, 0), (80, 1, 3, 0, 0, 0, 0), (81, 33, 20, 0, 0, 0, 0), (82, 10, 0, 3, 0, 0, 0), (83, 26, 90, 1, 0, 0, 0), (86, 10, 0, 1, 0, 0, 0), (87, 24, 91, 0, 0, 0, 0), (90, 10, 0, 0, 0, 0, 0), (91, 71, 0, 0, 0, 0, 0)]
def am_t60 : List (Nat × am_I) := [(0, 3, 0, 0, 0, 0, 0), (1, 1, 1, 0, 0, 0, 0), (2, 60, 52, 2, 3, 87, 4), (5, 6, 4, 0, 0, 0, 0), (7, 3, 0, 0, 0, 0, 0), (8, 1, 2, 0, 0, 0, 0), (9, 11, 0, 6, 0, 0, 0), (11, 60, 49, 3, 3, 83, 4), (14, 6, 5, 0, 0, 0, 0), (16, 2, 5, 0, 0, 0, 0), (18, 25, 48, 0, 0, 0, 0), (21, 3, 0, 0, 0, 0, 0), (22, 2, 4, 0, 0, 0, 0), (24, 10, 0, 0, 0, 0, 0), (25, 60, 49, 3, 3, 83, 4), (28, 25, 58, 0, 0, 0, 0), (31, 3, 0, 0, 0, 0, 0), (32, 42, 4, 12, 0, 38, 0), (35, 1, 2, 0, 0, 0, 0), (36, 33, 20, 0, 0, 0, 0), (37, 2, 4, 0, 0, 0, 0), (39, 12, 20, 0, 0, 0, 0), (40, 10, 0, 1, 0, 0, 0), (41, 12, 17, 0, 0, 0, 0), (42, 25, 61, 1, 0, 0, 0), (45, 24, 58, 0, 0, 0, 0), (48, 3, 0, 0, 0, 0, 0), (49, 1, 2, 0, 0, 0, 0), (50, 60, 52, 2, 3, 87, 4), (53, 2, 4, 0, 0, 0, 0), (55, 26, 61, 0, 0, 0, 0), (58, 11, 0, 0, 6, 0, 0), (60, 70, 0, 0, 0, 0, 0), (61, 1, 1, 0, 0, 0, 0), (62, 6, 6, 0, 0, 0, 0), (64, 2, 5, 0, 0, 0, 0), (66, 25, 79, 0, 0, 0, 0), (69, 2, 6, 0, 0, 0, 0), (71, 2, 4, 0, 0, 0, 0), (73, 26, 123, 0, 0, 0, 0), (76, 24, 89, 0, 0, 0, 0), (79, 3, 0, 0, 0, 0, 0), (80, 2, 6, 0, 0, 0, 0), (82, 1, 2, 0, 0, 0, 0), (83, 60, 53, 3, 5, 90, 4), (86, 25, 123, 1, 0, 0, 0), (89, 3, 0, 0, 0, 0, 0), (90, 2, 6, 0, 0, 0, 0), (92, 60, 51, 2, 4, 76, 4), (95, 6, 7, 0, 0, 0, 0), (97, 3, 0, 0, 0, 0, 0), (98, 1, 1, 0, 0, 0, 0), (99, 2, 7, 0, 0, 0, 0), (101, 2, 6, 0, 0, 0, 0), (103, 1, 3, 0, 0, 0, 0), (104, 60, 59, 5, 5, 93, 4), (107, 25, 116, 0, 0, 0, 0), (110, 11, 0, 0, 10, 0, 0), (112, 2, 7, 0, 0, 0, 0), (114, 12, 14, 0, 0, 0, 0), (115, 70, 0, 0, 0, 0, 0), (116, 2, 7, 0, 0, 0, 0), (118, 6, 6, 0, 0, 0, 0), (120, 24, 64, 0, 0, 0, 0), (123, 10, 0, 0, 0, 0, 0), (124, 6, 7, 0, 0, 0, 0), (126, 1, 2, 0, 0, 0, 0), (127, 6, 8, 0, 0, 0, 0), (129, 2, 5, 0, 0, 0, 0), (131, 25, 164, 1, 0, 0, 0), (134, 2, 8, 0, 0, 0, 0), (136, 2, 6, 0, 0, 0, 0), (138, 26, 164, 0, 0, 0, 0), (141, 3, 0, 0, 0, 0, 0), (142, 42, 4, 18, 0, 53, 0), (145, 2, 7, 0, 0, 0, 0), (147, 2, 8, 0, 0, 0, 0), (149, 34, 22, 0, 0, 0, 0), (150, 9, 7, 1, 0, 0, 0), (153, 3, 0, 0, 0, 0, 0), (154, 2, 8, 0, 0, 0, 0), (156, 60, 51, 2, 4, 76, 4), (159, 6, 8, 0, 0, 0, 0), (161, 24, 129, 0, 0, 0, 0), (164, 2, 7, 0, 0, 0, 0), (166, 10, 0, 1, 0, 0, 0), (167, 12, 14, 0, 0, 0, 0), (168, 6, 8, 0, 0, 0, 0), (170, 2, 8, 0, 0, 0, 0), (172, 25, 218, 2, 0, 0, 0), (175, 3, 0, 0, 0, 0, 0), (176, 3, 0, 0, 0, 0, 0), (177, 42, 4, 18, 0, 53, 0), (180, 2, 8, 0, 0, 0, 0), (182, 33, 22, 0, 0, 0, 0), (183, 60, 51, 2, 4, 76, 4), (186, 6, 9, 0, 0, 0, 0), (188, 3, 0, 0, 0, 0, 0), (189, 1, 1, 0, 0, 0, 0), (190, 2, 9, 0, 0, 0, 0), (192, 3, 0, 0, 0, 0, 0), (193, 42, 4, 18, 0, 53, 0), (196, 2, 8, 0, 0, 0, 0), (198, 33, 22, 0, 0, 0, 0), (199, 1, 3, 0, 0, 0, 0), (200, 60, 59, 5, 5, 93, 4), (203, 25, 212, 0, 0, 0, 0), (206, 11, 0, 0, 10, 0, 0), (208, 2, 9, 0, 0, 0, 0), (210, 12, 14, 0, 0, 0, 0), (211, 70, 0, 0, 0, 0, 0), (212, 9, 8, 0, 1, 0, 0), (215, 24, 170, 0, 0, 0, 0), (218, 10, 0, 0, 0, 0, 0), (219, 70, 0, 0, 0, 0, 0)]
def am_t61 : List (Nat × am_I) := [(0, 10, 0, 0, 0, 0, 0), (1, 5, 2, 0, 0, 0, 0), (2, 10, 0, 0, 0, 0, 0), (3, 5, 3, 0, 0, 0, 0), (4, 1, 3, 0, 0, 0, 0), (5, 3, 0, 0, 0, 0, 0), (6, 41, 4, 4, 0, 63, 0), (9, 26, 89, 3, 0, 0, 0), (12, 1, 2, 0, 0, 0, 0), (13, 25, 89, 1, 0, 0, 0), (16, 3, 0, 0, 0, 0, 0), (17, 42, 4, 2, 0, 7, 0), (20, 1, 3, 0, 0, 0, 0), (21, 33, 20, 0, 0, 0, 0), (22, 6, 4, 0, 0, 0, 0), (24, 3, 0, 0, 0, 0, 0), (25, 2, 4, 0, 0, 0, 0), (27, 10, 0, 0, 0, 0, 0), (28, 60, 49, 3, 3, 83, 4), (31, 25, 52, 0, 0, 0, 0), (34, 3, 0, 0, 0, 0, 0), (35, 42, 4, 10, 0, 32, 0), (38, 2, 4, 0, 0, 0, 0), (40, 35, 23, 0, 0, 0, 0), (41, 25, 48, 1, 0, 0, 0), (44, 10, 0, 1, 0, 0, 0), (45, 24, 59, 0, 0, 0, 0), (48, 10, 0, 0, 0, 0, 0), (49, 24, 59, 0, 0, 0, 0), (52, 3, 0, 0, 0, 0, 0), (53, 42, 4, 11, 0, 35, 0), (56, 2, 4, 0, 0, 0, 0), (58, 35, 23, 0, 0, 0, 0), (59, 6, 5, 0, 0, 0, 0), (61, 2, 5, 0, 0, 0, 0), (63, 25, 81, 0, 0, 0, 0), (66, 3, 0, 0, 0, 0, 0), (67, 1, 1, 0, 0, 0, 0), (68, 2, 4, 0, 0, 0, 0), (70, 10, 0, 0, 0, 0, 0), (71, 60, 60, 4, 10, 97, 4), (74, 25, 81, 1, 0, 0, 0), (77, 10, 0, 1, 0, 0, 0), (78, 24, 82, 0, 0, 0, 0), (81, 10, 0, 0, 0, 0, 0), (82, 5, 2, 0, 0, 0, 0), (83, 9, 3, 1, 0, 0, 0), (86, 24, 4, 0, 0, 0, 0), (89, 1, 2, 0, 0, 0, 0), (90, 71, 0, 0, 0, 0, 0)]
def am_t62 : List (Nat × am_I) := [(0, 3, 0, 0, 0, 0, 0), (1, 10, 0, 0, 0, 0, 0), (2, 43, 4, 0, 0, 56, 0), (5, 1, 1, 0, 0, 0, 0), (6, 25, 25, 2, 0, 0, 0), (9, 1, 1, 0, 0, 0, 0), (10, 11, 0, 6, 0, 0, 0), (12, 26, 25, 4, 0, 0, 0), (15, 1, 2, 0, 0, 0, 0), (16, 25, 25, 2, 0, 0, 0), (19, 1, 2, 0, 0, 0, 0), (20, 11, 0, 9, 0, 0, 0), (22, 26, 28, 5, 0, 0, 0), (25, 11, 0, 0, 2, 0, 0), (27, 70, 0, 0, 0, 0, 0), (28, 3, 0, 0, 0, 0, 0), (29, 41, 4, 1, 0, 60, 0), (32, 11, 0, 20, 0, 0, 0), (34, 26, 40, 1, 0, 0, 0), (37, 11, 0, 0, 5, 0, 0), (39, 70, 0, 0, 0, 0, 0), (40, 3, 0, 0, 0, 0, 0), (41, 41, 4, 1, 0, 60, 0), (44, 5, 3, 0, 0, 0, 0), (45, 3, 0, 0, 0, 0, 0), (46, 21, 0, 0, 0, 0, 0), (47, 41, 4, 1, 0, 60, 0), (50, 10, 0, 1, 0, 0, 0), (51, 12, 13, 0, 0, 0, 0), (52, 43, 4, 1, 0, 60, 0), (55, 3, 0, 0, 0, 0, 0), (56, 42, 4, 5, 0, 16, 0), (59, 1, 3, 0, 0, 0, 0), (60, 1, 1, 0, 0, 0, 0), (61, 34, 20, 0, 0, 0, 0), (62, 3, 0, 0, 0, 0, 0), (63, 42, 4, 6, 0, 19, 0), (66, 1, 3, 0, 0, 0, 0), (67, 1, 2, 0, 0, 0, 0), (68, 34, 20, 0, 0, 0, 0), (69, 3, 0, 0, 0, 0, 0), (70, 42, 4, 7, 0, 22, 0), (73, 1, 3, 0, 0, 0, 0), (74, 10, 0, 0, 1, 0, 0), (75, 34, 20, 0, 0, 0, 0), (76, 3, 0, 0, 0, 0, 0), (77, 42, 4, 8, 0, 25, 0), (80, 1, 3, 0, 0, 0, 0), (81, 10, 0, 0, 0, 0, 0), (82, 36, 23, 0, 0, 0, 0), (83, 3, 0, 0, 0, 0, 0), (84, 42, 4, 9, 0, 29, 0), (87, 1, 3, 0, 0, 0, 0), (88, 10, 0, 0, 0, 0, 0), (89, 36, 23, 0, 0, 0, 0), (90, 3, 0, 0, 0, 0, 0), (91, 42, 4, 10, 0, 32, 0), (94, 1, 3, 0, 0, 0, 0), (95, 10, 0, 0, 0, 0, 0), (96, 36, 23, 0, 0, 0, 0), (97, 3, 0, 0, 0, 0, 0), (98, 42, 4, 11, 0, 35, 0), (101, 1, 3, 0, 0, 0, 0), (102, 10, 0, 0, 0, 0, 0), (103, 36, 23, 0, 0, 0, 0), (104, 3, 0, 0, 0, 0, 0), (105, 42, 4, 12, 0, 38, 0), (108, 1, 3, 0, 0, 0, 0), (109, 10, 0, 0, 0, 0, 0), (110, 34, 20, 0, 0, 0, 0), (111, 3, 0, 0, 0, 0, 0), (112, 42, 4, 2, 0, 7, 0), (115, 3, 0, 0, 0, 0, 0), (116, 41, 4, 4, 0, 63, 0), (119, 1, 3, 0, 0, 0, 0), (120, 34, 20, 0, 0, 0, 0), (121, 3, 0, 0, 0, 0, 0), (122, 42, 4, 3, 0, 13, 0), (125, 3, 0, 0, 0, 0, 0), (126, 41, 4, 4, 0, 63, 0), (129, 10, 0, 0, 0, 0, 0), (130, 34, 20, 0, 0, 0, 0), (131, 3, 0, 0, 0, 0, 0), (132, 21, 0, 0, 0, 0, 0), (133, 41, 4, 4, 0, 63, 0), (136, 10, 0, 1, 0, 0, 0), (137, 12, 13, 0, 0, 0, 0), (138, 43, 4, 4, 0, 63, 0), (141, 1, 3, 0, 0, 0, 0), (142, 70, 0, 0, 0, 0, 0)]
def am_t63 : List (Nat × am_I) := [(0, 3, 0, 0, 0, 0, 0), (1, 42, 4, 5, 0, 16, 0), (4, 1, 1, 0, 0, 0, 0), (5, 33, 20, 0, 0, 0, 0), (6, 50, 1, 0, 0, 0, 0), (44, 1, 2, 0, 0, 0, 0), (45, 25, 52, 1, 0, 0, 0), (48, 10, 0, 1, 0, 0, 0), (49, 24, 53, 0, 0, 0, 0), (52, 10, 0, 0, 0, 0, 0), (53, 71, 0, 0, 0, 0, 0), (54, 1, 2, 0, 0, 0, 0), (55, 10, 0, 1, 0, 0, 0), (56, 26, 63, 1, 0, 0, 0), (59, 10, 0, 1, 0, 0, 0), (60, 24, 64, 0, 0, 0, 0), (63, 10, 0, 0, 0, 0, 0), (64, 71, 0, 0, 0, 0, 0), (65, 1, 2, 0, 0, 0, 0), (66, 10, 0, 2, 0, 0, 0), (67, 26, 75, 0, 0, 0, 0), (70, 1, 2, 0, 0, 0, 0), (71, 10, 0, 3, 0, 0, 0), (72, 26, 79, 1, 0, 0, 0), (75, 10, 0, 1, 0, 0, 0), (76, 24, 80, 0, 0, 0, 0), (79, 10, 0, 0, 0, 0, 0), (80, 71, 0, 0, 0, 0, 0), (81, 10, 0, 0, 0, 0, 0), (82, 71, 0, 0, 0, 0, 0)]
def am_t64 : List (Nat × am_I) := [(0, 3, 0, 0, 0, 0, 0), (1, 10, 0, 0, 0, 0, 0), (2, 43, 4, 0, 0, 56, 0), (5, 3, 0, 0, 0, 0, 0), (6, 1, 1, 0, 0, 0, 0), (7, 60, 48, 2, 2, 101, 4), (10, 25, 26, 0, 0, 0, 0), (13, 1, 2, 0, 0, 0, 0), (14, 10, 0, 0, 1, 0, 0), (15, 26, 28, 0, 0, 0, 0), (18, 3, 0, 0, 0, 0, 0), (19, 1, 2, 0, 0, 0, 0), (20, 60, 48, 2, 2, 101, 4), (23, 25, 28, 1, 0, 0, 0), (26, 10, 0, 0, 1, 0, 0), (27, 70, 0, 0, 0, 0, 0), (28, 1, 3, 0, 0, 0, 0), (29, 25, 37, 2, 0, 0, 0), (32, 1, 3, 0, 0, 0, 0), (33, 10, 0, 3, 0, 0, 0), (34, 26, 40, 5, 0, 0, 0), (37, 11, 0, 0, 2, 0, 0), (39, 70, 0, 0, 0, 0, 0), (40, 3, 0, 0, 0, 0, 0), (41, 1, 1, 0, 0, 0, 0), (42, 10, 0, 0, 0, 0, 0), (43, 60, 49, 3, 3, 83, 4), (46, 25, 67, 1, 0, 0, 0), (49, 3, 0, 0, 0, 0, 0), (50, 1, 1, 0, 0, 0, 0), (51, 11, 0, 6, 0, 0, 0), (53, 60, 49, 3, 3, 83, 4), (56, 25, 67, 1, 0, 0, 0), (59, 3, 0, 0, 0, 0, 0), (60, 1, 1, 0, 0, 0, 0), (61, 60, 54, 2, 2, 105, 4), (64, 25, 70, 0, 0, 0, 0), (67, 11, 0, 0, 3, 0, 0), (69, 70, 0, 0, 0, 0, 0), (70, 1, 2, 0, 0, 0, 0), (71, 10, 0, 0, 1, 0, 0), (72, 26, 94, 1, 0, 0, 0), (75, 3, 0, 0, 0, 0, 0), (76, 1, 1, 0, 0, 0, 0), (77, 60, 51, 2, 4, 76, 4), (80, 25, 85, 3, 0, 0, 0), (83, 10, 0, 0, 0, 0, 0), (84, 70, 0, 0, 0, 0, 0), (85, 3, 0, 0, 0, 0, 0), (86, 1, 1, 0, 0, 0, 0), (87, 10, 0, 0, 1, 0, 0), (88, 10, 0, 0, 1, 0, 0), (89, 60, 57, 4, 11, 108, 4), (92, 10, 0, 1, 0, 0, 0), (93, 70, 0, 0, 0, 0, 0), (94, 3, 0, 0, 0, 0, 0), (95, 1, 2, 0, 0, 0, 0), (96, 1, 3, 0, 0, 0, 0), (97, 60, 63, 3, 3, 112, 4), (100, 25, 140, 0, 0, 0, 0), (103, 1, 3, 0, 0, 0, 0), (104, 10, 0, 2, 0, 0, 0), (105, 26, 126, 1, 0, 0, 0), (108, 3, 0, 0, 0, 0, 0), (109, 1, 1, 0, 0, 0, 0), (110, 10, 0, 4, 0, 0, 0), (111, 60, 49, 3, 3, 83, 4), (114, 25, 140, 1, 0, 0, 0), (117, 3, 0, 0, 0, 0, 0), (118, 1, 1, 0, 0, 0, 0), (119, 10, 0, 5, 0, 0, 0), (120, 60, 49, 3, 3, 83, 4), (123, 25, 140, 1, 0, 0, 0), (126, 1, 3, 0, 0, 0, 0), (127, 10, 0, 3, 0, 0, 0), (128, 26, 143, 1, 0, 0, 0), (131, 3, 0, 0, 0, 0, 0), (132, 1, 1, 0, 0, 0, 0), (133, 10, 0, 1, 0, 0, 0), (134, 60, 49, 3, 3, 83, 4), (137, 25, 143, 1, 0, 0, 0), (140, 11, 0, 0, 3, 0, 0), (142, 70, 0, 0, 0, 0, 0), (143, 3, 0, 0, 0, 0, 0), (144, 1, 1, 0, 0, 0, 0), (145, 1, 2, 0, 0, 0, 0), (146, 1, 3, 0, 0, 0, 0), (147, 60, 55, 4, 4, 115, 4), (150, 25, 155, 0, 0, 0, 0), (153, 10, 0, 0, 0, 0, 0), (154, 70, 0, 0, 0, 0, 0), (155, 3, 0, 0, 0, 0, 0), (156, 1, 1, 0, 0, 0, 0), (157, 1, 2, 0, 0, 0, 0), (158, 60, 53, 3, 5, 90, 4), (161, 25, 167, 0, 0, 0, 0), (164, 11, 0, 0, 4, 0, 0), (166, 70, 0, 0, 0, 0, 0), (167, 1, 3, 0, 0, 0, 0), (168, 10, 0, 3, 0, 0, 0), (169, 26, 183, 0, 0, 0, 0), (172, 3, 0, 0, 0, 0, 0), (173, 1, 2, 0, 0, 0, 0), (174, 60, 56, 2, 5, 119, 4), (177, 25, 183, 0, 0, 0, 0), (180, 11, 0, 0, 5, 0, 0), (182, 70, 0, 0, 0, 0, 0), (183, 3, 0, 0, 0, 0, 0), (184, 1, 1, 0, 0, 0, 0), (185, 1, 2, 0, 0, 0, 0), (186, 1, 3, 0, 0, 0, 0), (187, 60, 57, 4, 11, 108, 4), (190, 10, 0, 1, 0, 0, 0), (191, 70, 0, 0, 0, 0, 0)]
def am_t65 : List (Nat × am_I) := [(0, 3, 0, 0, 0, 0, 0), (1, 10, 0, 0, 0, 0, 0), (2, 43, 4, 0, 0, 56, 0), (5, 3, 0, 0, 0, 0, 0), (6, 1, 1, 0, 0, 0, 0), (7, 60, 48, 2, 2, 101, 4), (10, 25, 21, 0, 0, 0, 0), (13, 3, 0, 0, 0, 0, 0), (14, 1, 2, 0, 0, 0, 0), (15, 60, 48, 2, 2, 101, 4), (18, 25, 23, 1, 0, 0, 0), (21, 10, 0, 0, 1, 0, 0), (22, 70, 0, 0, 0, 0, 0), (23, 3, 0, 0, 0, 0, 0), (24, 1, 1, 0, 0, 0, 0), (25, 10, 0, 0, 0, 0, 0), (26, 60, 49, 3, 3, 83, 4), (29, 25, 63, 1, 0, 0, 0), (32, 3, 0, 0, 0, 0, 0), (33, 1, 1, 0, 0, 0, 0), (34, 11, 0, 6, 0, 0, 0), (36, 60, 49, 3, 3, 83, 4), (39, 25, 63, 1, 0, 0, 0), (42, 3, 0, 0, 0, 0, 0), (43, 1, 1, 0, 0, 0, 0), (44, 10, 0, 4, 0, 0, 0), (45, 60, 49, 3, 3, 83, 4), (48, 25, 63, 1, 0, 0, 0), (51, 3, 0, 0, 0, 0, 0), (52, 1, 1, 0, 0, 0, 0), (53, 60, 54, 2, 2, 105, 4), (56, 25, 63, 1, 0, 0, 0), (59, 10, 0, 1, 0, 0, 0), (60, 24, 64, 0, 0, 0, 0), (63, 10, 0, 0, 0, 0, 0), (64, 5, 3, 0, 0, 0, 0), (65, 1, 3, 0, 0, 0, 0), (66, 25, 88, 0, 0, 0, 0), (69, 3, 0, 0, 0, 0, 0), (70, 1, 2, 0, 0, 0, 0), (71, 10, 0, 0, 0, 0, 0), (72, 60, 49, 3, 3, 83, 4), (75, 25, 88, 1, 0, 0, 0), (78, 3, 0, 0, 0, 0, 0), (79, 1, 2, 0, 0, 0, 0), (80, 11, 0, 6, 0, 0, 0), (82, 60, 49, 3, 3, 83, 4), (85, 25, 91, 0, 0, 0, 0), (88, 11, 0, 0, 3, 0, 0), (90, 70, 0, 0, 0, 0, 0), (91, 3, 0, 0, 0, 0, 0), (92, 1, 1, 0, 0, 0, 0), (93, 1, 2, 0, 0, 0, 0), (94, 60, 53, 3, 5, 90, 4), (97, 25, 103, 0, 0, 0, 0), (100, 11, 0, 0, 4, 0, 0), (102, 70, 0, 0, 0, 0, 0), (103, 3, 0, 0, 0, 0, 0), (104, 1, 1, 0, 0, 0, 0), (105, 1, 2, 0, 0, 0, 0), (106, 10, 0, 4, 0, 0, 0), (107, 60, 57, 4, 11, 108, 4), (110, 10, 0, 1, 0, 0, 0), (111, 70, 0, 0, 0, 0, 0)]
def am_t66 : List (Nat × am_I) := [(0, 3, 0, 0, 0, 0, 0), (1, 10, 0, 0, 0, 0, 0), (2, 43, 4, 0, 0, 56, 0), (5, 3, 0, 0, 0, 0, 0), (6, 1, 1, 0, 0, 0, 0), (7, 60, 48, 2, 2, 101, 4), (10, 25, 15, 1, 0, 0, 0), (13, 10, 0, 0, 1, 0, 0), (14, 70, 0, 0, 0, 0, 0), (15, 3, 0, 0, 0, 0, 0), (16, 1, 1, 0, 0, 0, 0), (17, 10, 0, 2, 0, 0, 0), (18, 60, 49, 3, 3, 83, 4), (21, 25, 27, 1, 0, 0, 0), (24, 11, 0, 0, 3, 0, 0), (26, 70, 0, 0, 0, 0, 0), (27, 3, 0, 0, 0, 0, 0), (28, 42, 4, 8, 0, 25, 0), (31, 1, 1, 0, 0, 0, 0), (32, 35, 23, 0, 0, 0, 0), (33, 1, 2, 0, 0, 0, 0), (34, 26, 41, 1, 0, 0, 0), (37, 10, 0, 1, 0, 0, 0), (38, 24, 42, 0, 0, 0, 0), (41, 10, 0, 0, 0, 0, 0), (42, 5, 3, 0, 0, 0, 0), (43, 3, 0, 0, 0, 0, 0), (44, 42, 4, 8, 0, 25, 0), (47, 1, 1, 0, 0, 0, 0), (48, 1, 2, 0, 0, 0, 0), (49, 25, 56, 1, 0, 0, 0), (52, 10, 0, 1, 0, 0, 0), (53, 24, 57, 0, 0, 0, 0), (56, 10, 0, 0, 0, 0, 0), (57, 36, 23, 0, 0, 0, 0), (58, 1, 3, 0, 0, 0, 0), (59, 70, 0, 0, 0, 0, 0)]
def am_t67 : List (Nat × am_I) := [(0, 3, 0, 0, 0, 0, 0), (1, 10, 0, 0, 0, 0, 0), (2, 43, 4, 0, 0, 56, 0), (5, 3, 0, 0, 0, 0, 0), (6, 1, 1, 0, 0, 0, 0), (7, 60, 48, 2, 2, 101, 4), (10, 25, 15, 1, 0, 0, 0), (13, 10, 0, 0, 1, 0, 0), (14, 70, 0, 0, 0, 0, 0), (15, 3, 0, 0, 0, 0, 0), (16, 1, 1, 0, 0, 0, 0), (17, 10, 0, 2, 0, 0, 0), (18, 60, 49, 3, 3, 83, 4), (21, 25, 27, 1, 0, 0, 0), (24, 11, 0, 0, 3, 0, 0), (26, 70, 0, 0, 0, 0, 0), (27, 3, 0, 0, 0, 0, 0), (28, 42, 4, 9, 0, 29, 0), (31, 1, 1, 0, 0, 0, 0), (32, 35, 23, 0, 0, 0, 0), (33, 1, 2, 0, 0, 0, 0), (34, 26, 41, 0, 0, 0, 0), (37, 10, 0, 1, 0, 0, 0), (38, 24, 42, 0, 0, 0, 0), (41, 10, 0, 0, 0, 0, 0), (42, 5, 3, 0, 0, 0, 0), (43, 3, 0, 0, 0, 0, 0), (44, 42, 4, 9, 0, 29, 0), (47, 1, 1, 0, 0, 0, 0), (48, 1, 2, 0, 0, 0, 0), (49, 36, 23, 0, 0, 0, 0), (50, 1, 3, 0, 0, 0, 0), (51, 70, 0, 0, 0, 0, 0)]
def am_t68 : List (Nat × am_I) := [(0, 3, 0, 0, 0, 0, 0), (1, 10, 0, 0, 0, 0, 0), (2, 43, 4, 0, 0, 56, 0), (5, 3, 0, 0, 0, 0, 0), (6, 1, 1, 0, 0, 0, 0), (7, 60, 48, 2, 2, 101, 4), (10, 25, 15, 1, 0, 0, 0), (13, 10, 0, 0, 1, 0, 0), (14, 70, 0, 0, 0, 0, 0), (15, 3, 0, 0, 0, 0, 0), (16, 1, 1, 0, 0, 0, 0), (17, 10, 0, 0, 0, 0, 0), (18, 60, 49, 3, 3, 83, 4), (21, 25, 27, 1, 0, 0, 0), (24, 11, 0, 0, 3, 0, 0), (26, 70, 0, 0, 0, 0, 0), (27, 3, 0, 0, 0, 0, 0), (28, 42, 4, 10, 0, 32, 0), (31, 1, 1, 0, 0, 0, 0), (32, 35, 23, 0, 0, 0, 0), (33, 1, 2, 0, 0, 0, 0), (34, 26, 41, 1, 0, 0, 0), (37, 10, 0, 1, 0, 0, 0), (38, 24, 42, 0, 0, 0, 0), (41, 10, 0, 0, 0, 0, 0), (42, 5, 3, 0, 0, 0, 0), (43, 3, 0, 0, 0, 0, 0), (44, 42, 4, 10, 0, 32, 0), (47, 1, 1, 0, 0, 0, 0), (48, 1, 2, 0, 0, 0, 0), (49, 25, 56, 1, 0, 0, 0), (52, 10, 0, 1, 0, 0, 0), (53, 24, 57, 0, 0, 0, 0), (56, 10, 0, 0, 0, 0, 0), (57, 36, 23, 0, 0, 0, 0), (58, 1, 3, 0, 0, 0, 0), (59, 70, 0, 0, 0, 0, 0)]
def am_t69 : List (Nat × am_I) := [(0, 3, 0, 0, 0, 0, 0), (1, 10, 0, 0, 0, 0, 0), (2, 43, 4, 0, 0, 56, 0), (5, 3, 0, 0, 0, 0, 0), (6, 1, 1, 0, 0, 0, 0), (7, 60, 48, 2, 2, 101, 4), (10, 25, 15, 1, 0, 0, 0), (13, 10, 0, 0, 1, 0, 0), (14, 70, 0, 0, 0, 0, 0), (15, 3, 0, 0, 0, 0, 0), (16, 1, 1, 0, 0, 0, 0), (17, 10, 0, 0, 0, 0, 0), (18, 60, 49, 3, 3, 83, 4), (21, 25, 27, 0, 0, 0, 0), (24, 11, 0, 0, 3, 0, 0), (26, 70, 0, 0, 0, 0, 0), (27, 3, 0, 0, 0, 0, 0), (28, 42, 4, 11, 0, 35, 0), (31, 1, 1, 0, 0, 0, 0), (32, 35, 23, 0, 0, 0, 0), (33, 1, 2, 0, 0, 0, 0), (34, 26, 41, 0, 0, 0, 0), (37, 10, 0, 1, 0, 0, 0), (38, 24, 42, 0, 0, 0, 0), (41, 10, 0, 0, 0, 0, 0), (42, 5, 3, 0, 0, 0, 0), (43, 3, 0, 0, 0, 0, 0), (44, 42, 4, 11, 0, 35, 0), (47, 1, 1, 0, 0, 0, 0), (48, 1, 2, 0, 0, 0, 0), (49, 36, 23, 0, 0, 0, 0), (50, 1, 3, 0, 0, 0, 0), (51, 70, 0, 0, 0, 0, 0)]
def am_t70 : List (Nat × am_I) := [(0, 3, 0, 0, 0, 0, 0), (1, 10, 0, 0, 0, 0, 0), (2, 43, 4, 0, 0, 56, 0), (5, 3, 0, 0, 0, 0, 0), (6, 1, 1, 0, 0, 0, 0), (7, 60, 48, 2, 2, 101, 4), (10, 25, 21, 0, 0, 0, 0), (13, 3, 0, 0, 0, 0, 0), (14, 1, 2, 0, 0, 0, 0), (15, 60, 48, 2, 2, 101, 4), (18, 25, 23, 1, 0, 0, 0), (21, 10, 0, 0, 1, 0, 0), (22, 70, 0, 0, 0, 0, 0), (23, 3, 0, 0, 0, 0, 0), (24, 1, 1, 0, 0, 0, 0), (25, 11, 0, 6, 0, 0, 0), (27, 60, 49, 3, 3, 83, 4), (30, 25, 42, 0, 0, 0, 0), (33, 3, 0, 0, 0, 0, 0), (34, 1, 2, 0, 0, 0, 0), (35, 10, 0, 0, 0, 0, 0), (36, 60, 49, 3, 3, 83, 4), (39, 25, 45, 1, 0, 0, 0), (42, 11, 0, 0, 3, 0, 0), (44, 70, 0, 0, 0, 0, 0), (45, 3, 0, 0, 0, 0, 0), (46, 42, 4, 12, 0, 38, 0), (49, 1, 1, 0, 0, 0, 0), (50, 33, 20, 0, 0, 0, 0), (51, 1, 2, 0, 0, 0, 0), (52, 12, 20, 0, 0, 0, 0), (53, 10, 0, 1, 0, 0, 0), (54, 12, 17, 0, 0, 0, 0), (55, 10, 0, 1, 0, 0, 0), (56, 26, 63, 1, 0, 0, 0), (59, 10, 0, 1, 0, 0, 0), (60, 24, 64, 0, 0, 0, 0), (63, 10, 0, 0, 0, 0, 0), (64, 6, 4, 0, 0, 0, 0), (66, 2, 4, 0, 0, 0, 0), (68, 1, 3, 0, 0, 0, 0), (69, 26, 84, 0, 0, 0, 0), (72, 3, 0, 0, 0, 0, 0), (73, 42, 4, 12, 0, 38, 0), (76, 1, 1, 0, 0, 0, 0), (77, 22, 0, 0, 0, 0, 0), (78, 33, 20, 0, 0, 0, 0), (79, 10, 0, 1, 0, 0, 0), (80, 1, 2, 0, 0, 0, 0), (81, 12, 19, 0, 0, 0, 0), (82, 12, 18, 0, 0, 0, 0), (83, 34, 20, 0, 0, 0, 0), (84, 2, 4, 0, 0, 0, 0), (86, 1, 3, 0, 0, 0, 0), (87, 26, 94, 0, 0, 0, 0), (90, 10, 0, 1, 0, 0, 0), (91, 24, 95, 0, 0, 0, 0), (94, 10, 0, 0, 0, 0, 0), (95, 70, 0, 0, 0, 0, 0)]
def am_t71 : List (Nat × am_I) := [(0, 3, 0, 0, 0, 0, 0), (1, 1, 1, 0, 0, 0, 0), (2, 10, 0, 1, 0, 0, 0), (3, 60, 49, 3, 3, 83, 4), (6, 25, 27, 1, 0, 0, 0), (9, 3, 0, 0, 0, 0, 0), (10, 1, 1, 0, 0, 0, 0), (11, 10, 0, 2, 0, 0, 0), (12, 60, 49, 3, 3, 83, 4), (15, 25, 27, 1, 0, 0, 0), (18, 3, 0, 0, 0, 0, 0), (19, 1, 1, 0, 0, 0, 0), (20, 10, 0, 3, 0, 0, 0), (21, 60, 49, 3, 3, 83, 4), (24, 25, 31, 0, 0, 0, 0), (27, 10, 0, 1, 0, 0, 0), (28, 24, 32, 0, 0, 0, 0), (31, 10, 0, 0, 0, 0, 0), (32, 71, 0, 0, 0, 0, 0)]
def am_t72 : List (Nat × am_I) := [(0, 3, 0, 0, 0, 0, 0), (1, 10, 0, 0, 0, 0, 0), (2, 43, 4, 0, 0, 56, 0), (5, 3, 0, 0, 0, 0, 0), (6, 1, 1, 0, 0, 0, 0), (7, 60, 48, 2, 2, 101, 4), (10, 25, 21, 0, 0, 0, 0), (13, 3, 0, 0, 0, 0, 0), (14, 1, 2, 0, 0, 0, 0), (15, 60, 48, 2, 2, 101, 4), (18, 25, 23, 1, 0, 0, 0), (21, 10, 0, 0, 1, 0, 0), (22, 70, 0, 0, 0, 0, 0), (23, 3, 0, 0, 0, 0, 0), (24, 1, 1, 0, 0, 0, 0), (25, 10, 0, 4, 0, 0, 0), (26, 60, 49, 3, 3, 83, 4), (29, 25, 48, 0, 0, 0, 0), (32, 3, 0, 0, 0, 0, 0), (33, 1, 2, 0, 0, 0, 0), (34, 60, 71, 2, 2, 122, 4), (37, 25, 48, 0, 0, 0, 0), (40, 3, 0, 0, 0, 0, 0), (41, 1, 2, 0, 0, 0, 0), (42, 60, 54, 2, 2, 105, 4), (45, 25, 51, 0, 0, 0, 0), (48, 11, 0, 0, 3, 0, 0), (50, 70, 0, 0, 0, 0, 0), (51, 3, 0, 0, 0, 0, 0), (52, 1, 2, 0, 0, 0, 0), (53, 1, 1, 0, 0, 0, 0), (54, 10, 0, 2, 0, 0, 0), (55, 60, 55, 4, 4, 115, 4), (58, 25, 63, 0, 0, 0, 0), (61, 10, 0, 0, 0, 0, 0), (62, 70, 0, 0, 0, 0, 0), (63, 3, 0, 0, 0, 0, 0), (64, 1, 2, 0, 0, 0, 0), (65, 1, 1, 0, 0, 0, 0), (66, 60, 53, 3, 5, 90, 4), (69, 25, 75, 0, 0, 0, 0), (72, 11, 0, 0, 4, 0, 0), (74, 70, 0, 0, 0, 0, 0), (75, 3, 0, 0, 0, 0, 0), (76, 1, 1, 0, 0, 0, 0), (77, 1, 2, 0, 0, 0, 0), (78, 10, 0, 1, 0, 0, 0), (79, 60, 60, 4, 10, 97, 4), (82, 5, 3, 0, 0, 0, 0), (83, 1, 3, 0, 0, 0, 0), (84, 25, 89, 3, 0, 0, 0), (87, 1, 3, 0, 0, 0, 0), (88, 70, 0, 0, 0, 0, 0), (89, 3, 0, 0, 0, 0, 0), (90, 1, 1, 0, 0, 0, 0), (91, 60, 56, 2, 5, 119, 4), (94, 25, 100, 0, 0, 0, 0), (97, 11, 0, 0, 5, 0, 0), (99, 70, 0, 0, 0, 0, 0), (100, 3, 0, 0, 0, 0, 0), (101, 1, 2, 0, 0, 0, 0), (102, 1, 1, 0, 0, 0, 0), (103, 10, 0, 2, 0, 0, 0), (104, 60, 57, 4, 11, 108, 4), (107, 10, 0, 1, 0, 0, 0), (108, 70, 0, 0, 0, 0, 0)]
def am_t73 : List (Nat × am_I) := [(0, 3, 0, 0, 0, 0, 0), (1, 10, 0, 0, 0, 0, 0), (2, 43, 4, 0, 0, 56, 0), (5, 3, 0, 0, 0, 0, 0), (6, 1, 1, 0, 0, 0, 0), (7, 60, 48, 2, 2, 101, 4), (10, 25, 21, 0, 0, 0, 0), (13, 3, 0, 0, 0, 0, 0), (14, 1, 2, 0, 0, 0, 0), (15, 60, 48, 2, 2, 101, 4), (18, 25, 23, 1, 0, 0, 0), (21, 10, 0, 0, 1, 0, 0), (22, 70, 0, 0, 0, 0, 0), (23, 3, 0, 0, 0, 0, 0), (24, 1, 2, 0, 0, 0, 0), (25, 1, 1, 0, 0, 0, 0), (26, 10, 0, 3, 0, 0, 0), (27, 60, 55, 4, 4, 115, 4), (30, 5, 3, 0, 0, 0, 0), (31, 3, 0, 0, 0, 0, 0), (32, 1, 1, 0, 0, 0, 0), (33, 10, 0, 4, 0, 0, 0), (34, 60, 49, 3, 3, 83, 4), (37, 25, 62, 0, 0, 0, 0), (40, 1, 3, 0, 0, 0, 0), (41, 25, 54, 1, 0, 0, 0), (44, 3, 0, 0, 0, 0, 0), (45, 1, 2, 0, 0, 0, 0), (46, 1, 1, 0, 0, 0, 0), (47, 10, 0, 2, 0, 0, 0), (48, 60, 55, 4, 4, 115, 4), (51, 25, 62, 0, 0, 0, 0), (54, 3, 0, 0, 0, 0, 0), (55, 1, 1, 0, 0, 0, 0), (56, 60, 51, 2, 4, 76, 4), (59, 25, 65, 3, 0, 0, 0), (62, 11, 0, 0, 3, 0, 0), (64, 70, 0, 0, 0, 0, 0), (65, 1, 3, 0, 0, 0, 0), (66, 25, 77, 0, 0, 0, 0), (69, 3, 0, 0, 0, 0, 0), (70, 1, 1, 0, 0, 0, 0), (71, 60, 56, 2, 5, 119, 4), (74, 25, 89, 1, 0, 0, 0), (77, 3, 0, 0, 0, 0, 0), (78, 3, 0, 0, 0, 0, 0), (79, 1, 1, 0, 0, 0, 0), (80, 60, 51, 2, 4, 76, 4), (83, 60, 56, 2, 5, 119, 4), (86, 25, 92, 0, 0, 0, 0), (89, 11, 0, 0, 5, 0, 0), (91, 70, 0, 0, 0, 0, 0), (92, 1, 3, 0, 0, 0, 0), (93, 25, 103, 0, 0, 0, 0), (96, 3, 0, 0, 0, 0, 0), (97, 1, 2, 0, 0, 0, 0), (98, 1, 1, 0, 0, 0, 0), (99, 10, 0, 2, 0, 0, 0), (100, 60, 57, 4, 11, 108, 4), (103, 3, 0, 0, 0, 0, 0), (104, 1, 2, 0, 0, 0, 0), (105, 3, 0, 0, 0, 0, 0), (106, 1, 1, 0, 0, 0, 0), (107, 60, 51, 2, 4, 76, 4), (110, 3, 0, 0, 0, 0, 0), (111, 42, 4, 7, 0, 22, 0), (114, 1, 1, 0, 0, 0, 0), (115, 33, 20, 0, 0, 0, 0), (116, 60, 57, 4, 11, 108, 4), (119, 10, 0, 1, 0, 0, 0), (120, 70, 0, 0, 0, 0, 0)]
def am_t74 : List (Nat × am_I) := [(0, 3, 0, 0, 0, 0, 0), (1, 10, 0, 0, 0, 0, 0), (2, 43, 4, 0, 0, 56, 0), (5, 3, 0, 0, 0, 0, 0), (6, 1, 1, 0, 0, 0, 0), (7, 60, 48, 2, 2, 101, 4), (10, 25, 29, 0, 0, 0, 0), (13, 3, 0, 0, 0, 0, 0), (14, 1, 2, 0, 0, 0, 0), (15, 60, 48, 2, 2, 101, 4), (18, 25, 29, 0, 0, 0, 0), (21, 3, 0, 0, 0, 0, 0), (22, 1, 3, 0, 0, 0, 0), (23, 60, 48, 2, 2, 101, 4), (26, 25, 31, 1, 0, 0, 0), (29, 10, 0, 0, 1, 0, 0), (30, 70, 0, 0, 0, 0, 0), (31, 3, 0, 0, 0, 0, 0), (32, 1, 3, 0, 0, 0, 0), (33, 10, 0, 0, 0, 0, 0), (34, 60, 49, 3, 3, 83, 4), (37, 25, 67, 1, 0, 0, 0), (40, 3, 0, 0, 0, 0, 0), (41, 1, 3, 0, 0, 0, 0), (42, 10, 0, 2, 0, 0, 0), (43, 60, 49, 3, 3, 83, 4), (46, 25, 67, 1, 0, 0, 0), (49, 3, 0, 0, 0, 0, 0), (50, 1, 3, 0, 0, 0, 0), (51, 10, 0, 3, 0, 0, 0), (52, 60, 49, 3, 3, 83, 4), (55, 25, 67, 1, 0, 0, 0), (58, 3, 0, 0, 0, 0, 0), (59, 1, 3, 0, 0, 0, 0), (60, 10, 0, 5, 0, 0, 0), (61, 60, 49, 3, 3, 83, 4), (64, 25, 71, 0, 0, 0, 0), (67, 10, 0, 1, 0, 0, 0), (68, 24, 72, 0, 0, 0, 0), (71, 10, 0, 0, 0, 0, 0), (72, 6, 4, 0, 0, 0, 0), (74, 3, 0, 0, 0, 0, 0), (75, 1, 1, 0, 0, 0, 0), (76, 10, 0, 4, 0, 0, 0), (77, 60, 49, 3, 3, 83, 4), (80, 25, 98, 0, 0, 0, 0), (83, 3, 0, 0, 0, 0, 0), (84, 1, 2, 0, 0, 0, 0), (85, 1, 1, 0, 0, 0, 0), (86, 10, 0, 2, 0, 0, 0), (87, 60, 55, 4, 4, 115, 4), (90, 25, 98, 0, 0, 0, 0), (93, 2, 4, 0, 0, 0, 0), (95, 25, 101, 1, 0, 0, 0), (98, 11, 0, 0, 3, 0, 0), (100, 70, 0, 0, 0, 0, 0), (101, 3, 0, 0, 0, 0, 0), (102, 1, 2, 0, 0, 0, 0), (103, 1, 3, 0, 0, 0, 0), (104, 60, 53, 3, 5, 90, 4), (107, 25, 113, 0, 0, 0, 0), (110, 11, 0, 0, 4, 0, 0), (112, 70, 0, 0, 0, 0, 0), (113, 3, 0, 0, 0, 0, 0), (114, 1, 1, 0, 0, 0, 0), (115, 1, 3, 0, 0, 0, 0), (116, 10, 0, 1, 0, 0, 0), (117, 60, 60, 4, 10, 97, 4), (120, 6, 5, 0, 0, 0, 0), (122, 2, 5, 0, 0, 0, 0), (124, 25, 130, 3, 0, 0, 0), (127, 2, 5, 0, 0, 0, 0), (129, 70, 0, 0, 0, 0, 0), (130, 3, 0, 0, 0, 0, 0), (131, 1, 3, 0, 0, 0, 0), (132, 10, 0, 2, 0, 0, 0), (133, 60, 49, 3, 3, 83, 4), (136, 25, 153, 0, 0, 0, 0), (139, 3, 0, 0, 0, 0, 0), (140, 42, 4, 8, 0, 25, 0), (143, 1, 3, 0, 0, 0, 0), (144, 35, 23, 0, 0, 0, 0), (145, 25, 153, 0, 0, 0, 0), (148, 11, 0, 0, 10, 0, 0), (150, 1, 3, 0, 0, 0, 0), (151, 12, 14, 0, 0, 0, 0), (152, 70, 0, 0, 0, 0, 0), (153, 3, 0, 0, 0, 0, 0), (154, 1, 3, 0, 0, 0, 0), (155, 60, 56, 2, 5, 119, 4), (158, 25, 164, 0, 0, 0, 0), (161, 11, 0, 0, 5, 0, 0), (163, 70, 0, 0, 0, 0, 0), (164, 3, 0, 0, 0, 0, 0), (165, 1, 2, 0, 0, 0, 0), (166, 1, 3, 0, 0, 0, 0), (167, 3, 0, 0, 0, 0, 0), (168, 1, 3, 0, 0, 0, 0), (169, 10, 0, 3, 0, 0, 0), (170, 60, 49, 3, 3, 83, 4), (173, 25, 180, 0, 0, 0, 0), (176, 10, 0, 1, 0, 0, 0), (177, 24, 181, 0, 0, 0, 0), (180, 10, 0, 0, 0, 0, 0), (181, 60, 57, 4, 11, 108, 4), (184, 10, 0, 1, 0, 0, 0), (185, 70, 0, 0, 0, 0, 0)]
def am_t75 : List (Nat × am_I) := [(0, 3, 0, 0, 0, 0, 0), (1, 10, 0, 0, 0, 0, 0), (2, 43, 4, 0, 0, 56, 0), (5, 3, 0, 0, 0, 0, 0), (6, 1, 1, 0, 0, 0, 0), (7, 60, 48, 2, 2, 101, 4), (10, 25, 21, 0, 0, 0, 0), (13, 3, 0, 0, 0, 0, 0), (14, 1, 2, 0, 0, 0, 0), (15, 60, 48, 2, 2, 101, 4), (18, 25, 23, 1, 0, 0, 0), (21, 10, 0, 0, 1, 0, 0), (22, 70, 0, 0, 0, 0, 0), (23, 3, 0, 0, 0, 0, 0), (24, 1, 2, 0, 0, 0, 0), (25, 1, 1, 0, 0, 0, 0), (26, 10, 0, 3, 0, 0, 0), (27, 60, 55, 4, 4, 115, 4), (30, 5, 3, 0, 0, 0, 0), (31, 3, 0, 0, 0, 0, 0), (32, 1, 1, 0, 0, 0, 0), (33, 10, 0, 4, 0, 0, 0), (34, 60, 49, 3, 3, 83, 4), (37, 25, 63, 0, 0, 0, 0), (40, 3, 0, 0, 0, 0, 0), (41, 1, 2, 0, 0, 0, 0), (42, 10, 0, 1, 0, 0, 0), (43, 60, 49, 3, 3, 83, 4), (46, 25, 63, 0, 0, 0, 0), (49, 1, 3, 0, 0, 0, 0), (50, 25, 66, 1, 0, 0, 0), (53, 3, 0, 0, 0, 0, 0), (54, 1, 2, 0, 0, 0, 0), (55, 1, 1, 0, 0, 0, 0), (56, 10, 0, 2, 0, 0, 0), (57, 60, 55, 4, 4, 115, 4), (60, 25, 66, 1, 0, 0, 0), (63, 11, 0, 0, 3, 0, 0), (65, 70, 0, 0, 0, 0, 0), (66, 1, 3, 0, 0, 0, 0), (67, 25, 72, 0, 0, 0, 0), (70, 10, 0, 0, 0, 0, 0), (71, 70, 0, 0, 0, 0, 0), (72, 3, 0, 0, 0, 0, 0), (73, 1, 2, 0, 0, 0, 0), (74, 1, 1, 0, 0, 0, 0), (75, 10, 0, 3, 0, 0, 0), (76, 60, 57, 4, 11, 108, 4), (79, 10, 0, 1, 0, 0, 0), (80, 70, 0, 0, 0, 0, 0)]
def am_t76 : List (Nat × am_I) := [(0, 3, 0, 0, 0, 0, 0), (1, 10, 0, 0, 0, 0, 0), (2, 43, 4, 0, 0, 56, 0), (5, 3, 0, 0, 0, 0, 0), (6, 1, 1, 0, 0, 0, 0), (7, 60, 48, 2, 2, 101, 4), (10, 25, 21, 0, 0, 0, 0), (13, 3, 0, 0, 0, 0, 0), (14, 1, 2, 0, 0, 0, 0), (15, 60, 48, 2, 2, 101, 4), (18, 25, 23, 1, 0, 0, 0), (21, 10, 0, 0, 1, 0, 0), (22, 70, 0, 0, 0, 0, 0), (23, 3, 0, 0, 0, 0, 0), (24, 1, 1, 0, 0, 0, 0), (25, 10, 0, 4, 0, 0, 0), (26, 60, 49, 3, 3, 83, 4), (29, 25, 50, 0, 0, 0, 0), (32, 3, 0, 0, 0, 0, 0), (33, 1, 2, 0, 0, 0, 0), (34, 10, 0, 2, 0, 0, 0), (35, 60, 49, 3, 3, 83, 4), (38, 25, 53, 1, 0, 0, 0), (41, 3, 0, 0, 0, 0, 0), (42, 1, 2, 0, 0, 0, 0), (43, 10, 0, 5, 0, 0, 0), (44, 60, 49, 3, 3, 83, 4), (47, 25, 53, 1, 0, 0, 0), (50, 11, 0, 0, 3, 0, 0), (52, 70, 0, 0, 0, 0, 0), (53, 3, 0, 0, 0, 0, 0), (54, 1, 1, 0, 0, 0, 0), (55, 1, 2, 0, 0, 0, 0), (56, 10, 0, 0, 0, 0, 0), (57, 60, 55, 4, 4, 115, 4), (60, 25, 65, 0, 0, 0, 0), (63, 10, 0, 0, 0, 0, 0), (64, 70, 0, 0, 0, 0, 0), (65, 3, 0, 0, 0, 0, 0), (66, 1, 1, 0, 0, 0, 0), (67, 1, 2, 0, 0, 0, 0), (68, 60, 53, 3, 5, 90, 4), (71, 25, 77, 0, 0, 0, 0), (74, 11, 0, 0, 4, 0, 0), (76, 70, 0, 0, 0, 0, 0), (77, 3, 0, 0, 0, 0, 0), (78, 1, 1, 0, 0, 0, 0), (79, 1, 2, 0, 0, 0, 0), (80, 10, 0, 1, 0, 0, 0), (81, 60, 60, 4, 10, 97, 4), (84, 5, 3, 0, 0, 0, 0), (85, 1, 3, 0, 0, 0, 0), (86, 25, 91, 3, 0, 0, 0), (89, 1, 3, 0, 0, 0, 0), (90, 70, 0, 0, 0, 0, 0), (91, 3, 0, 0, 0, 0, 0), (92, 1, 2, 0, 0, 0, 0), (93, 10, 0, 2, 0, 0, 0), (94, 60, 49, 3, 3, 83, 4), (97, 25, 114, 0, 0, 0, 0), (100, 3, 0, 0, 0, 0, 0), (101, 42, 4, 8, 0, 25, 0), (104, 1, 2, 0, 0, 0, 0), (105, 35, 23, 0, 0, 0, 0), (106, 25, 114, 0, 0, 0, 0), (109, 11, 0, 0, 10, 0, 0), (111, 1, 2, 0, 0, 0, 0), (112, 12, 14, 0, 0, 0, 0), (113, 70, 0, 0, 0, 0, 0), (114, 3, 0, 0, 0, 0, 0), (115, 1, 2, 0, 0, 0, 0), (116, 60, 56, 2, 5, 119, 4), (119, 25, 125, 0, 0, 0, 0), (122, 11, 0, 0, 5, 0, 0), (124, 70, 0, 0, 0, 0, 0), (125, 3, 0, 0, 0, 0, 0), (126, 1, 1, 0, 0, 0, 0), (127, 1, 2, 0, 0, 0, 0), (128, 10, 0, 0, 0, 0, 0), (129, 60, 57, 4, 11, 108, 4), (132, 10, 0, 1, 0, 0, 0), (133, 70, 0, 0, 0, 0, 0)]
def am_t77 : List (Nat × am_I) := [(0, 3, 0, 0, 0, 0, 0), (1, 10, 0, 0, 0, 0, 0), (2, 43, 4, 0, 0, 56, 0), (5, 3, 0, 0, 0, 0, 0), (6, 1, 1, 0, 0, 0, 0), (7, 60, 48, 2, 2, 101, 4), (10, 25, 15, 1, 0, 0, 0), (13, 10, 0, 0, 1, 0, 0), (14, 70, 0, 0, 0, 0, 0), (15, 3, 0, 0, 0, 0, 0), (16, 1, 1, 0, 0, 0, 0), (17, 10, 0, 4, 0, 0, 0), (18, 60, 49, 3, 3, 83, 4), (21, 25, 32, 0, 0, 0, 0), (24, 3, 0, 0, 0, 0, 0), (25, 1, 1, 0, 0, 0, 0), (26, 60, 51, 2, 4, 76, 4), (29, 24, 33, 0, 0, 0, 0), (32, 10, 0, 0, 1, 0, 0), (33, 5, 2, 0, 0, 0, 0), (34, 1, 2, 0, 0, 0, 0), (35, 25, 56, 2, 0, 0, 0), (38, 3, 0, 0, 0, 0, 0), (39, 1, 2, 0, 0, 0, 0), (40, 10, 0, 2, 0, 0, 0), (41, 60, 49, 3, 3, 83, 4), (44, 25, 59, 1, 0, 0, 0), (47, 3, 0, 0, 0, 0, 0), (48, 1, 2, 0, 0, 0, 0), (49, 10, 0, 5, 0, 0, 0), (50, 60, 49, 3, 3, 83, 4), (53, 25, 59, 1, 0, 0, 0), (56, 11, 0, 0, 3, 0, 0), (58, 70, 0, 0, 0, 0, 0), (59, 3, 0, 0, 0, 0, 0), (60, 1, 2, 0, 0, 0, 0), (61, 60, 51, 2, 4, 76, 4), (64, 5, 3, 0, 0, 0, 0), (65, 1, 3, 0, 0, 0, 0), (66, 25, 79, 2, 0, 0, 0), (69, 3, 0, 0, 0, 0, 0), (70, 42, 4, 7, 0, 22, 0), (73, 1, 2, 0, 0, 0, 0), (74, 33, 20, 0, 0, 0, 0), (75, 10, 0, 1, 0, 0, 0), (76, 26, 82, 5, 0, 0, 0), (79, 11, 0, 0, 3, 0, 0), (81, 70, 0, 0, 0, 0, 0), (82, 3, 0, 0, 0, 0, 0), (83, 1, 2, 0, 0, 0, 0), (84, 10, 0, 2, 0, 0, 0), (85, 60, 49, 3, 3, 83, 4), (88, 25, 105, 0, 0, 0, 0), (91, 3, 0, 0, 0, 0, 0), (92, 42, 4, 8, 0, 25, 0), (95, 1, 2, 0, 0, 0, 0), (96, 35, 23, 0, 0, 0, 0), (97, 25, 105, 0, 0, 0, 0), (100, 11, 0, 0, 10, 0, 0), (102, 1, 2, 0, 0, 0, 0), (103, 12, 14, 0, 0, 0, 0), (104, 70, 0, 0, 0, 0, 0), (105, 3, 0, 0, 0, 0, 0), (106, 1, 3, 0, 0, 0, 0), (107, 60, 56, 2, 5, 119, 4), (110, 25, 116, 0, 0, 0, 0), (113, 11, 0, 0, 5, 0, 0), (115, 70, 0, 0, 0, 0, 0), (116, 3, 0, 0, 0, 0, 0), (117, 1, 1, 0, 0, 0, 0), (118, 1, 3, 0, 0, 0, 0), (119, 3, 0, 0, 0, 0, 0), (120, 42, 4, 7, 0, 22, 0), (123, 1, 2, 0, 0, 0, 0), (124, 33, 20, 0, 0, 0, 0), (125, 60, 57, 4, 11, 108, 4), (128, 10, 0, 1, 0, 0, 0), (129, 70, 0, 0, 0, 0, 0)]
def am_t78 : List (Nat × am_I) := [(0, 3, 0, 0, 0, 0, 0), (1, 10, 0, 0, 0, 0, 0), (2, 43, 4, 0, 0, 56, 0), (5, 3, 0, 0, 0, 0, 0), (6, 1, 1, 0, 0, 0, 0), (7, 60, 48, 2, 2, 101, 4), (10, 25, 21, 0, 0, 0, 0), (13, 3, 0, 0, 0, 0, 0), (14, 1, 2, 0, 0, 0, 0), (15, 60, 48, 2, 2, 101, 4), (18, 25, 23, 1, 0, 0, 0), (21, 10, 0, 0, 1, 0, 0), (22, 70, 0, 0, 0, 0, 0), (23, 3, 0, 0, 0, 0, 0), (24, 1, 1, 0, 0, 0, 0), (25, 10, 0, 4, 0, 0, 0), (26, 60, 49, 3, 3, 83, 4), (29, 25, 41, 0, 0, 0, 0), (32, 3, 0, 0, 0, 0, 0), (33, 1, 2, 0, 0, 0, 0), (34, 10, 0, 0, 0, 0, 0), (35, 60, 49, 3, 3, 83, 4), (38, 25, 44, 1, 0, 0, 0), (41, 11, 0, 0, 3, 0, 0), (43, 70, 0, 0, 0, 0, 0), (44, 3, 0, 0, 0, 0, 0), (45, 1, 1, 0, 0, 0, 0), (46, 60, 51, 2, 4, 76, 4), (49, 5, 3, 0, 0, 0, 0), (50, 1, 3, 0, 0, 0, 0), (51, 25, 67, 2, 0, 0, 0), (54, 3, 0, 0, 0, 0, 0), (55, 1, 3, 0, 0, 0, 0), (56, 10, 0, 5, 0, 0, 0), (57, 60, 49, 3, 3, 83, 4), (60, 25, 67, 0, 0, 0, 0), (63, 1, 3, 0, 0, 0, 0), (64, 24, 68, 0, 0, 0, 0), (67, 1, 1, 0, 0, 0, 0), (68, 6, 4, 0, 0, 0, 0), (70, 3, 0, 0, 0, 0, 0), (71, 2, 4, 0, 0, 0, 0), (73, 60, 51, 2, 4, 76, 4), (76, 6, 5, 0, 0, 0, 0), (78, 2, 5, 0, 0, 0, 0), (80, 25, 93, 2, 0, 0, 0), (83, 3, 0, 0, 0, 0, 0), (84, 2, 5, 0, 0, 0, 0), (86, 10, 0, 0, 0, 0, 0), (87, 60, 49, 3, 3, 83, 4), (90, 25, 96, 1, 0, 0, 0), (93, 11, 0, 0, 3, 0, 0), (95, 70, 0, 0, 0, 0, 0), (96, 2, 5, 0, 0, 0, 0), (98, 1, 2, 0, 0, 0, 0), (99, 26, 104, 1, 0, 0, 0), (102, 10, 0, 0, 0, 0, 0), (103, 70, 0, 0, 0, 0, 0), (104, 3, 0, 0, 0, 0, 0), (105, 1, 2, 0, 0, 0, 0), (106, 60, 56, 2, 5, 119, 4), (109, 25, 115, 0, 0, 0, 0), (112, 11, 0, 0, 5, 0, 0), (114, 70, 0, 0, 0, 0, 0), (115, 3, 0, 0, 0, 0, 0), (116, 2, 4, 0, 0, 0, 0), (118, 1, 2, 0, 0, 0, 0), (119, 10, 0, 0, 0, 0, 0), (120, 60, 57, 4, 11, 108, 4), (123, 10, 0, 1, 0, 0, 0), (124, 70, 0, 0, 0, 0, 0)]
def am_t79 : List (Nat × am_I) := [(0, 3, 0, 0, 0, 0, 0), (1, 10, 0, 0, 0, 0, 0), (2, 43, 4, 0, 0, 56, 0), (5, 3, 0, 0, 0, 0, 0), (6, 1, 1, 0, 0, 0, 0), (7, 60, 48, 2, 2, 101, 4), (10, 25, 15, 1, 0, 0, 0), (13, 10, 0, 0, 1, 0, 0), (14, 70, 0, 0, 0, 0, 0), (15, 3, 0, 0, 0, 0, 0), (16, 1, 1, 0, 0, 0, 0), (17, 60, 47, 2, 3, 69, 4), (20, 5, 2, 0, 0, 0, 0), (21, 3, 0, 0, 0, 0, 0), (22, 1, 2, 0, 0, 0, 0), (23, 60, 50, 2, 3, 73, 4), (26, 1, 2, 0, 0, 0, 0), (27, 12, 14, 0, 0, 0, 0), (28, 5, 3, 0, 0, 0, 0), (29, 10, 0, 0, 0, 0, 0), (30, 6, 4, 0, 0, 0, 0), (32, 2, 4, 0, 0, 0, 0), (34, 11, 0, 20, 0, 0, 0), (36, 26, 53, 3, 0, 0, 0), (39, 3, 0, 0, 0, 0, 0), (40, 42, 4, 13, 0, 41, 0), (43, 2, 4, 0, 0, 0, 0), (45, 10, 0, 0, 0, 0, 0), (46, 36, 23, 0, 0, 0, 0), (47, 9, 4, 1, 0, 0, 0), (50, 24, 32, 0, 0, 0, 0), (53, 3, 0, 0, 0, 0, 0), (54, 42, 4, 13, 0, 41, 0), (57, 1, 1, 0, 0, 0, 0), (58, 10, 0, 1, 0, 0, 0), (59, 36, 23, 0, 0, 0, 0), (60, 10, 0, 1, 0, 0, 0), (61, 6, 4, 0, 0, 0, 0), (63, 10, 0, 0, 0, 0, 0), (64, 6, 5, 0, 0, 0, 0), (66, 10, 0, 1, 0, 0, 0), (67, 6, 6, 0, 0, 0, 0), (69, 2, 6, 0, 0, 0, 0), (71, 1, 3, 0, 0, 0, 0), (72, 26, 143, 3, 0, 0, 0), (75, 3, 0, 0, 0, 0, 0), (76, 42, 4, 2, 0, 7, 0), (79, 1, 2, 0, 0, 0, 0), (80, 2, 6, 0, 0, 0, 0), (82, 12, 13, 0, 0, 0, 0), (83, 33, 20, 0, 0, 0, 0), (84, 6, 7, 0, 0, 0, 0), (86, 3, 0, 0, 0, 0, 0), (87, 42, 4, 13, 0, 41, 0), (90, 3, 0, 0, 0, 0, 0), (91, 2, 7, 0, 0, 0, 0), (93, 60, 51, 2, 4, 76, 4), (96, 35, 23, 0, 0, 0, 0), (97, 25, 137, 0, 0, 0, 0), (100, 3, 0, 0, 0, 0, 0), (101, 42, 4, 7, 0, 22, 0), (104, 2, 7, 0, 0, 0, 0), (106, 33, 20, 0, 0, 0, 0), (107, 10, 0, 4, 0, 0, 0), (108, 26, 125, 1, 0, 0, 0), (111, 3, 0, 0, 0, 0, 0), (112, 42, 4, 13, 0, 41, 0), (115, 2, 7, 0, 0, 0, 0), (117, 10, 0, 1, 0, 0, 0), (118, 36, 23, 0, 0, 0, 0), (119, 9, 4, 1, 0, 0, 0), (122, 24, 137, 0, 0, 0, 0), (125, 3, 0, 0, 0, 0, 0), (126, 42, 4, 18, 0, 53, 0), (129, 2, 5, 0, 0, 0, 0), (131, 2, 7, 0, 0, 0, 0), (133, 34, 22, 0, 0, 0, 0), (134, 9, 5, 1, 0, 0, 0), (137, 9, 6, 1, 0, 0, 0), (140, 24, 69, 0, 0, 0, 0), (143, 10, 0, 0, 0, 0, 0), (144, 6, 6, 0, 0, 0, 0), (146, 2, 6, 0, 0, 0, 0), (148, 2, 5, 0, 0, 0, 0), (150, 26, 172, 3, 0, 0, 0), (153, 3, 0, 0, 0, 0, 0), (154, 3, 0, 0, 0, 0, 0), (155, 42, 4, 18, 0, 53, 0), (158, 2, 6, 0, 0, 0, 0), (160, 33, 22, 0, 0, 0, 0), (161, 10, 0, 0, 1, 0, 0), (162, 10, 0, 0, 1, 0, 0), (163, 60, 57, 4, 11, 108, 4), (166, 9, 6, 1, 0, 0, 0), (169, 24, 146, 0, 0, 0, 0), (172, 3, 0, 0, 0, 0, 0), (173, 3, 0, 0, 0, 0, 0), (174, 1, 1, 0, 0, 0, 0), (175, 60, 47, 2, 3, 69, 4), (178, 2, 4, 0, 0, 0, 0), (180, 60, 58, 3, 4, 79, 4), (183, 10, 0, 0, 0, 0, 0), (184, 6, 6, 0, 0, 0, 0), (186, 2, 6, 0, 0, 0, 0), (188, 11, 0, 20, 0, 0, 0), (190, 26, 244, 3, 0, 0, 0), (193, 2, 6, 0, 0, 0, 0), (195, 3, 0, 0, 0, 0, 0), (196, 41, 4, 1, 0, 60, 0), (199, 26, 238, 3, 0, 0, 0), (202, 3, 0, 0, 0, 0, 0), (203, 42, 4, 5, 0, 16, 0), (206, 2, 6, 0, 0, 0, 0), (208, 33, 20, 0, 0, 0, 0), (209, 11, 0, 6, 0, 0, 0), (211, 26, 238, 1, 0, 0, 0), (214, 3, 0, 0, 0, 0, 0), (215, 42, 4, 5, 0, 16, 0), (218, 1, 1, 0, 0, 0, 0), (219, 33, 20, 0, 0, 0, 0), (220, 25, 238, 1, 0, 0, 0), (223, 3, 0, 0, 0, 0, 0), (224, 42, 4, 12, 0, 38, 0), (227, 2, 6, 0, 0, 0, 0), (229, 22, 0, 0, 0, 0, 0), (230, 33, 20, 0, 0, 0, 0), (231, 10, 0, 1, 0, 0, 0), (232, 1, 1, 0, 0, 0, 0), (233, 12, 19, 0, 0, 0, 0), (234, 10, 0, 0, 1, 0, 0), (235, 12, 18, 0, 0, 0, 0), (236, 12, 17, 0, 0, 0, 0), (237, 34, 20, 0, 0, 0, 0), (238, 9, 6, 1, 0, 0, 0), (241, 24, 186, 0, 0, 0, 0), (244, 2, 4, 0, 0, 0, 0), (246, 70, 0, 0, 0, 0, 0)]
def am_t80 : List (Nat × am_I) := [(0, 3, 0, 0, 0, 0, 0), (1, 10, 0, 0, 0, 0, 0), (2, 43, 4, 0, 0, 56, 0), (5, 3, 0, 0, 0, 0, 0), (6, 1, 1, 0, 0, 0, 0), (7, 60, 48, 2, 2, 101, 4), (10, 25, 21, 0, 0, 0, 0), (13, 3, 0, 0, 0, 0, 0), (14, 1, 2, 0, 0, 0, 0), (15, 60, 48, 2, 2, 101, 4), (18, 25, 23, 1, 0, 0, 0), (21, 10, 0, 0, 1, 0, 0), (22, 70, 0, 0, 0, 0, 0), (23, 3, 0, 0, 0, 0, 0), (24, 1, 1, 0, 0, 0, 0), (25, 10, 0, 4, 0, 0, 0), (26, 60, 49, 3, 3, 83, 4), (29, 25, 35, 1, 0, 0, 0), (32, 11, 0, 0, 3, 0, 0), (34, 70, 0, 0, 0, 0, 0), (35, 3, 0, 0, 0, 0, 0), (36, 1, 1, 0, 0, 0, 0), (37, 1, 2, 0, 0, 0, 0), (38, 10, 0, 1, 0, 0, 0), (39, 60, 60, 4, 10, 97, 4), (42, 5, 3, 0, 0, 0, 0), (43, 1, 3, 0, 0, 0, 0), (44, 25, 51, 3, 0, 0, 0), (47, 1, 3, 0, 0, 0, 0), (48, 24, 52, 0, 0, 0, 0), (51, 10, 0, 1, 0, 0, 0), (52, 70, 0, 0, 0, 0, 0)]
def am_t81 : List (Nat × am_I) := [(0, 3, 0, 0, 0, 0, 0), (1, 10, 0, 0, 0, 0, 0), (2, 43, 4, 0, 0, 56, 0), (5, 3, 0, 0, 0, 0, 0), (6, 1, 1, 0, 0, 0, 0), (7, 60, 48, 2, 2, 101, 4), (10, 25, 21, 0, 0, 0, 0), (13, 3, 0, 0, 0, 0, 0), (14, 1, 2, 0, 0, 0, 0), (15, 60, 48, 2, 2, 101, 4), (18, 25, 23, 1, 0, 0, 0), (21, 10, 0, 0, 1, 0, 0), (22, 70, 0, 0, 0, 0, 0), (23, 3, 0, 0, 0, 0, 0), (24, 1, 1, 0, 0, 0, 0), (25, 10, 0, 4, 0, 0, 0), (26, 60, 49, 3, 3, 83, 4), (29, 25, 35, 1, 0, 0, 0), (32, 11, 0, 0, 3, 0, 0), (34, 70, 0, 0, 0, 0, 0), (35, 3, 0, 0, 0, 0, 0), (36, 1, 1, 0, 0, 0, 0), (37, 1, 2, 0, 0, 0, 0), (38, 10, 0, 0, 0, 0, 0), (39, 60, 60, 4, 10, 97, 4), (42, 5, 3, 0, 0, 0, 0), (43, 1, 3, 0, 0, 0, 0), (44, 25, 51, 3, 0, 0, 0), (47, 1, 3, 0, 0, 0, 0), (48, 24, 65, 0, 0, 0, 0), (51, 3, 0, 0, 0, 0, 0), (52, 1, 1, 0, 0, 0, 0), (53, 60, 61, 2, 6, 125, 4), (56, 25, 63, 0, 0, 0, 0), (59, 10, 0, 1, 0, 0, 0), (60, 24, 65, 0, 0, 0, 0), (63, 11, 0, 0, 7, 0, 0), (65, 70, 0, 0, 0, 0, 0)]
def am_t82 : List (Nat × am_I) := [(0, 3, 0, 0, 0, 0, 0), (1, 10, 0, 0, 0, 0, 0), (2, 43, 4, 0, 0, 56, 0), (5, 3, 0, 0, 0, 0, 0), (6, 1, 1, 0, 0, 0, 0), (7, 60, 48, 2, 2, 101, 4), (10, 25, 15, 1, 0, 0, 0), (13, 10, 0, 0, 1, 0, 0), (14, 70, 0, 0, 0, 0, 0), (15, 3, 0, 0, 0, 0, 0), (16, 1, 1, 0, 0, 0, 0), (17, 10, 0, 4, 0, 0, 0), (18, 60, 49, 3, 3, 83, 4), (21, 25, 27, 1, 0, 0, 0), (24, 11, 0, 0, 3, 0, 0), (26, 70, 0, 0, 0, 0, 0), (27, 3, 0, 0, 0, 0, 0), (28, 1, 1, 0, 0, 0, 0), (29, 60, 61, 2, 6, 125, 4), (32, 25, 39, 0, 0, 0, 0), (35, 10, 0, 1, 0, 0, 0), (36, 24, 40, 0, 0, 0, 0), (39, 10, 0, 0, 0, 0, 0), (40, 70, 0, 0, 0, 0, 0)]
def am_t83 : List (Nat × am_I) := [(0, 3, 0, 0, 0, 0, 0), (1, 10, 0, 0, 0, 0, 0), (2, 43, 4, 0, 0, 56, 0), (5, 3, 0, 0, 0, 0, 0), (6, 1, 1, 0, 0, 0, 0), (7, 60, 48, 2, 2, 101, 4), (10, 25, 15, 1, 0, 0, 0), (13, 10, 0, 0, 1, 0, 0), (14, 70, 0, 0, 0, 0, 0), (15, 3, 0, 0, 0, 0, 0), (16, 1, 1, 0, 0, 0, 0), (17, 60, 51, 2, 4, 76, 4), (20, 5, 2, 0, 0, 0, 0), (21, 1, 2, 0, 0, 0, 0), (22, 25, 30, 3, 0, 0, 0), (25, 11, 0, 0, 8, 0, 0), (27, 24, 31, 0, 0, 0, 0), (30, 1, 2, 0, 0, 0, 0), (31, 70, 0, 0, 0, 0, 0)]
def am_t84 : List (Nat × am_I) := [(0, 3, 0, 0, 0, 0, 0), (1, 10, 0, 0, 0, 0, 0), (2, 43, 4, 0, 0, 56, 0), (5, 3, 0, 0, 0, 0, 0), (6, 1, 1, 0, 0, 0, 0), (7, 60, 48, 2, 2, 101, 4), (10, 25, 15, 1, 0, 0, 0), (13, 10, 0, 0, 1, 0, 0), (14, 70, 0, 0, 0, 0, 0), (15, 3, 0, 0, 0, 0, 0), (16, 1, 1, 0, 0, 0, 0), (17, 60, 51, 2, 4, 76, 4), (20, 25, 28, 3, 0, 0, 0), (23, 11, 0, 0, 8, 0, 0), (25, 24, 34, 0, 0, 0, 0), (28, 3, 0, 0, 0, 0, 0), (29, 42, 4, 7, 0, 22, 0), (32, 1, 1, 0, 0, 0, 0), (33, 33, 20, 0, 0, 0, 0), (34, 70, 0, 0, 0, 0, 0)]
def am_t85 : List (Nat × am_I) := [(0, 3, 0, 0, 0, 0, 0), (1, 10, 0, 0, 0, 0, 0), (2, 43, 4, 0, 0, 56, 0), (5, 3, 0, 0, 0, 0, 0), (6, 1, 1, 0, 0, 0, 0), (7, 60, 48, 2, 2, 101, 4), (10, 25, 15, 1, 0, 0, 0), (13, 10, 0, 0, 1, 0, 0), (14, 70, 0, 0, 0, 0, 0), (15, 3, 0, 0, 0, 0, 0), (16, 1, 1, 0, 0, 0, 0), (17, 60, 47, 2, 3, 69, 4), (20, 5, 3, 0, 0, 0, 0), (21, 10, 0, 0, 0, 0, 0), (22, 6, 4, 0, 0, 0, 0), (24, 1, 3, 0, 0, 0, 0), (25, 10, 0, 1, 0, 0, 0), (26, 12, 13, 0, 0, 0, 0), (27, 6, 5, 0, 0, 0, 0), (29, 2, 5, 0, 0, 0, 0), (31, 3, 0, 0, 0, 0, 0), (32, 1, 3, 0, 0, 0, 0), (33, 60, 50, 2, 3, 73, 4), (36, 26, 80, 3, 0, 0, 0), (39, 3, 0, 0, 0, 0, 0), (40, 42, 4, 3, 0, 13, 0), (43, 2, 5, 0, 0, 0, 0), (45, 33, 20, 0, 0, 0, 0), (46, 3, 0, 0, 0, 0, 0), (47, 42, 4, 3, 0, 13, 0), (50, 1, 3, 0, 0, 0, 0), (51, 33, 20, 0, 0, 0, 0), (52, 10, 0, 1, 0, 0, 0), (53, 12, 13, 0, 0, 0, 0), (54, 26, 74, 1, 0, 0, 0), (57, 2, 4, 0, 0, 0, 0), (59, 1, 2, 0, 0, 0, 0), (60, 26, 71, 1, 0, 0, 0), (63, 3, 0, 0, 0, 0, 0), (64, 42, 4, 2, 0, 7, 0), (67, 2, 5, 0, 0, 0, 0), (69, 33, 20, 0, 0, 0, 0), (70, 70, 0, 0, 0, 0, 0), (71, 9, 4, 1, 0, 0, 0), (74, 9, 5, 1, 0, 0, 0), (77, 24, 29, 0, 0, 0, 0), (80, 11, 0, 0, 2, 0, 0), (82, 70, 0, 0, 0, 0, 0)]
def am_t86 : List (Nat × am_I) := [(0, 3, 0, 0, 0, 0, 0), (1, 10, 0, 0, 0, 0, 0), (2, 43, 4, 0, 0, 56, 0), (5, 3, 0, 0, 0, 0, 0), (6, 1, 1, 0, 0, 0, 0), (7, 60, 48, 2, 2, 101, 4), (10, 25, 33, 0, 0, 0, 0), (13, 3, 0, 0, 0, 0, 0), (14, 3, 0, 0, 0, 0, 0), (15, 1, 1, 0, 0, 0, 0), (16, 60, 47, 2, 3, 69, 4), (19, 60, 50, 2, 3, 73, 4), (22, 3, 0, 0, 0, 0, 0), (23, 1, 1, 0, 0, 0, 0), (24, 60, 47, 2, 3, 69, 4), (27, 12, 14, 0, 0, 0, 0), (28, 10, 0, 1, 0, 0, 0), (29, 12, 14, 0, 0, 0, 0), (30, 24, 34, 0, 0, 0, 0), (33, 10, 0, 0, 1, 0, 0), (34, 70, 0, 0, 0, 0, 0)]
def am_t87 : List (Nat × am_I) := [(0, 3, 0, 0, 0, 0, 0), (1, 10, 0, 0, 0, 0, 0), (2, 43, 4, 0, 0, 56, 0), (5, 3, 0, 0, 0, 0, 0), (6, 1, 1, 0, 0, 0, 0), (7, 60, 48, 2, 2, 101, 4), (10, 25, 15, 1, 0, 0, 0), (13, 10, 0, 0, 1, 0, 0), (14, 70, 0, 0, 0, 0, 0), (15, 3, 0, 0, 0, 0, 0), (16, 1, 1, 0, 0, 0, 0), (17, 60, 47, 2, 3, 69, 4), (20, 5, 3, 0, 0, 0, 0), (21, 1, 2, 0, 0, 0, 0), (22, 25, 47, 2, 0, 0, 0), (25, 1, 2, 0, 0, 0, 0), (26, 3, 0, 0, 0, 0, 0), (27, 1, 3, 0, 0, 0, 0), (28, 60, 50, 2, 3, 73, 4), (31, 1, 3, 0, 0, 0, 0), (32, 12, 14, 0, 0, 0, 0), (33, 26, 47, 3, 0, 0, 0), (36, 3, 0, 0, 0, 0, 0), (37, 42, 4, 2, 0, 7, 0), (40, 1, 3, 0, 0, 0, 0), (41, 1, 2, 0, 0, 0, 0), (42, 12, 13, 0, 0, 0, 0), (43, 33, 20, 0, 0, 0, 0), (44, 24, 49, 0, 0, 0, 0), (47, 11, 0, 0, 2, 0, 0), (49, 70, 0, 0, 0, 0, 0)]
def am_t88 : List (Nat × am_I) := [(0, 3, 0, 0, 0, 0, 0), (1, 10, 0, 0, 0, 0, 0), (2, 43, 4, 0, 0, 56, 0), (5, 3, 0, 0, 0, 0, 0), (6, 1, 1, 0, 0, 0, 0), (7, 60, 48, 2, 2, 101, 4), (10, 25, 21, 0, 0, 0, 0), (13, 3, 0, 0, 0, 0, 0), (14, 1, 1, 0, 0, 0, 0), (15, 60, 52, 2, 3, 87, 4), (18, 24, 22, 0, 0, 0, 0), (21, 10, 0, 0, 1, 0, 0), (22, 70, 0, 0, 0, 0, 0)]
def am_t89 : List (Nat × am_I) := [(0, 3, 0, 0, 0, 0, 0), (1, 10, 0, 0, 0, 0, 0), (2, 43, 4, 0, 0, 56, 0), (5, 3, 0, 0, 0, 0, 0), (6, 1, 1, 0, 0, 0, 0), (7, 60, 48, 2, 2, 101, 4), (10, 25, 21, 0, 0, 0, 0), (13, 3, 0, 0, 0, 0, 0), (14, 1, 2, 0, 0, 0, 0), (15, 60, 48, 2, 2, 101, 4), (18, 25, 23, 1, 0, 0, 0), (21, 10, 0, 0, 1, 0, 0), (22, 70, 0, 0, 0, 0, 0), (23, 3, 0, 0, 0, 0, 0), (24, 1, 1, 0, 0, 0, 0), (25, 1, 2, 0, 0, 0, 0), (26, 60, 53, 3, 5, 90, 4), (29, 25, 36, 0, 0, 0, 0), (32, 10, 0, 1, 0, 0, 0), (33, 24, 37, 0, 0, 0, 0), (36, 10, 0, 0, 0, 0, 0), (37, 70, 0, 0, 0, 0, 0)]
def am_t90 : List (Nat × am_I) := [(0, 3, 0, 0, 0, 0, 0), (1, 10, 0, 0, 0, 0, 0), (2, 43, 4, 0, 0, 56, 0), (5, 3, 0, 0, 0, 0, 0), (6, 41, 4, 15, 0, 66, 0), (9, 11, 0, 30, 0, 0, 0), (11, 26, 21, 3, 0, 0, 0), (14, 3, 0, 0, 0, 0, 0), (15, 41, 4, 15, 0, 66, 0), (18, 24, 23, 0, 0, 0, 0), (21, 11, 0, 30, 0, 0, 0), (23, 5, 3, 0, 0, 0, 0), (24, 1, 1, 0, 0, 0, 0), (25, 25, 42, 2, 0, 0, 0), (28, 1, 1, 0, 0, 0, 0), (29, 1, 3, 0, 0, 0, 0), (30, 26, 42, 3, 0, 0, 0), (33, 1, 2, 0, 0, 0, 0), (34, 25, 42, 2, 0, 0, 0), (37, 1, 2, 0, 0, 0, 0), (38, 10, 0, 3, 0, 0, 0), (39, 26, 45, 5, 0, 0, 0), (42, 11, 0, 0, 2, 0, 0), (44, 70, 0, 0, 0, 0, 0), (45, 3, 0, 0, 0, 0, 0), (46, 42, 4, 14, 0, 44, 0), (49, 10, 0, 4, 0, 0, 0), (50, 3, 0, 0, 0, 0, 0), (51, 41, 4, 15, 0, 66, 0), (54, 10, 0, 1, 0, 0, 0), (55, 12, 14, 0, 0, 0, 0), (56, 1, 1, 0, 0, 0, 0), (57, 12, 14, 0, 0, 0, 0), (58, 11, 0, 30, 0, 0, 0), (60, 12, 16, 0, 0, 0, 0), (61, 12, 15, 0, 0, 0, 0), (62, 1, 2, 0, 0, 0, 0), (63, 12, 13, 0, 0, 0, 0), (64, 33, 21, 0, 0, 0, 0), (65, 6, 4, 0, 0, 0, 0), (67, 2, 4, 0, 0, 0, 0), (69, 25, 77, 3, 0, 0, 0), (72, 11, 0, 0, 8, 0, 0), (74, 24, 79, 0, 0, 0, 0), (77, 2, 4, 0, 0, 0, 0), (79, 70, 0, 0, 0, 0, 0)]
def am_t91 : List (Nat × am_I) := [(0, 3, 0, 0, 0, 0, 0), (1, 10, 0, 0, 0, 0, 0), (2, 43, 4, 0, 0, 56, 0), (5, 1, 1, 0, 0, 0, 0), (6, 25, 14, 1, 0, 0, 0), (9, 3, 0, 0, 0, 0, 0), (10, 41, 4, 4, 0, 63, 0), (13, 70, 0, 0, 0, 0, 0), (14, 1, 1, 0, 0, 0, 0), (15, 10, 0, 1, 0, 0, 0), (16, 26, 24, 1, 0, 0, 0), (19, 3, 0, 0, 0, 0, 0), (20, 41, 4, 15, 0, 66, 0), (23, 70, 0, 0, 0, 0, 0), (24, 1, 1, 0, 0, 0, 0), (25, 10, 0, 2, 0, 0, 0), (26, 26, 32, 0, 0, 0, 0), (29, 11, 0, 0, 2, 0, 0), (31, 70, 0, 0, 0, 0, 0), (32, 10, 0, 0, 0, 0, 0), (33, 5, 2, 0, 0, 0, 0), (34, 10, 0, 0, 0, 0, 0), (35, 5, 3, 0, 0, 0, 0), (36, 1, 3, 0, 0, 0, 0), (37, 3, 0, 0, 0, 0, 0), (38, 41, 4, 4, 0, 63, 0), (41, 26, 96, 3, 0, 0, 0), (44, 1, 2, 0, 0, 0, 0), (45, 3, 0, 0, 0, 0, 0), (46, 42, 4, 3, 0, 13, 0), (49, 1, 3, 0, 0, 0, 0), (50, 33, 20, 0, 0, 0, 0), (51, 25, 87, 1, 0, 0, 0), (54, 3, 0, 0, 0, 0, 0), (55, 3, 0, 0, 0, 0, 0), (56, 42, 4, 2, 0, 7, 0), (59, 1, 3, 0, 0, 0, 0), (60, 33, 20, 0, 0, 0, 0), (61, 10, 0, 0, 0, 0, 0), (62, 60, 49, 3, 3, 83, 4), (65, 25, 87, 1, 0, 0, 0), (68, 3, 0, 0, 0, 0, 0), (69, 3, 0, 0, 0, 0, 0), (70, 42, 4, 2, 0, 7, 0), (73, 1, 3, 0, 0, 0, 0), (74, 33, 20, 0, 0, 0, 0), (75, 11, 0, 6, 0, 0, 0), (77, 60, 49, 3, 3, 83, 4), (80, 25, 87, 1, 0, 0, 0), (83, 10, 0, 1, 0, 0, 0), (84, 24, 88, 0, 0, 0, 0), (87, 10, 0, 0, 0, 0, 0), (88, 12, 13, 0, 0, 0, 0), (89, 5, 2, 0, 0, 0, 0), (90, 9, 3, 1, 0, 0, 0), (93, 24, 36, 0, 0, 0, 0), (96, 1, 2, 0, 0, 0, 0), (97, 70, 0, 0, 0, 0, 0)]
def am_t92 : List (Nat × am_I) := [(0, 3, 0, 0, 0, 0, 0), (1, 49, 0, 0, 0, 3, 0), (4, 3, 0, 0, 0, 0, 0), (5, 11, 0, 120, 0, 0, 0), (7, 39, 11, 0, 0, 0, 0), (9, 47, 3, 0, 0, 11, 0), (12, 73, 0, 0, 0, 0, 0)]
def am_t93 : List (Nat × am_I) := [(0, 3, 0, 0, 0, 0, 0), (1, 10, 0, 0, 0, 0, 0), (2, 43, 3, 1, 0, 15, 0), (5, 73, 0, 0, 0, 0, 0)]
def am_t94 : List (Nat × am_I) := [(0, 3, 0, 0, 0, 0, 0), (1, 41, 3, 1, 0, 15, 0), (4, 11, 0, 30, 0, 0, 0), (6, 61, 118, 2, 3, 19, 0), (9, 10, 0, 4, 0, 0, 0), (10, 12, 15, 0, 0, 0, 0), (11, 6, 5, 0, 0, 0, 0), (13, 3, 0, 0, 0, 0, 0), (14, 42, 3, 0, 0, 11, 0), (17, 2, 5, 0, 0, 0, 0), (19, 1, 1, 0, 0, 0, 0), (20, 34, 11, 0, 0, 0, 0), (21, 3, 0, 0, 0, 0, 0), (22, 42, 3, 0, 0, 11, 0), (25, 2, 5, 0, 0, 0, 0), (27, 10, 0, 1, 0, 0, 0), (28, 12, 13, 0, 0, 0, 0), (29, 1, 2, 0, 0, 0, 0), (30, 34, 11, 0, 0, 0, 0), (31, 3, 0, 0, 0, 0, 0), (32, 42, 3, 0, 0, 11, 0), (35, 2, 5, 0, 0, 0, 0), (37, 10, 0, 2, 0, 0, 0), (38, 12, 13, 0, 0, 0, 0), (39, 1, 3, 0, 0, 0, 0), (40, 34, 11, 0, 0, 0, 0), (41, 3, 0, 0, 0, 0, 0), (42, 42, 3, 0, 0, 11, 0), (45, 2, 5, 0, 0, 0, 0), (47, 10, 0, 3, 0, 0, 0), (48, 12, 13, 0, 0, 0, 0), (49, 2, 4, 0, 0, 0, 0), (51, 34, 11, 0, 0, 0, 0), (52, 3, 0, 0, 0, 0, 0), (53, 21, 0, 0, 0, 0, 0), (54, 41, 3, 1, 0, 15, 0), (57, 10, 0, 1, 0, 0, 0), (58, 12, 13, 0, 0, 0, 0), (59, 43, 3, 1, 0, 15, 0), (62, 73, 0, 0, 0, 0, 0)]
def am_t95 : List (Nat × am_I) := [(0, 1, 2, 0, 0, 0, 0), (1, 25, 26, 2, 0, 0, 0), (4, 1, 2, 0, 0, 0, 0), (5, 10, 0, 4, 0, 0, 0), (6, 26, 26, 3, 0, 0, 0), (9, 1, 1, 0, 0, 0, 0), (10, 25, 26, 2, 0, 0, 0), (13, 1, 1, 0, 0, 0, 0), (14, 3, 0, 0, 0, 0, 0), (15, 41, 3, 1, 0, 15, 0), (18, 11, 0, 30, 0, 0, 0), (20, 51, 0, 0, 0, 25, 0), (23, 26, 29, 2, 0, 0, 0), (26, 11, 0, 0, 2, 0, 0), (28, 70, 0, 0, 0, 0, 0), (29, 3, 0, 0, 0, 0, 0), (30, 42, 3, 0, 0, 11, 0), (33, 3, 0, 0, 0, 0, 0), (34, 41, 3, 1, 0, 15, 0), (37, 10, 0, 1, 0, 0, 0), (38, 12, 14, 0, 0, 0, 0), (39, 1, 1, 0, 0, 0, 0), (40, 12, 14, 0, 0, 0, 0), (41, 11, 0, 30, 0, 0, 0), (43, 61, 118, 2, 3, 19, 0), (46, 10, 0, 4, 0, 0, 0), (47, 12, 15, 0, 0, 0, 0), (48, 1, 2, 0, 0, 0, 0), (49, 12, 13, 0, 0, 0, 0), (50, 33, 11, 0, 0, 0, 0), (51, 70, 0, 0, 0, 0, 0)]
def am_t96 : List (Nat × am_I) := [(0, 3, 0, 0, 0, 0, 0), (1, 3, 1, 0, 0, 0, 0), (2, 10, 0, 0, 0, 0, 0), (3, 61, 99, 3, 5, 9, 0), (6, 70, 0, 0, 0, 0, 0)]
def am_t97 : List (Nat × am_I) := [(0, 3, 0, 0, 0, 0, 0), (1, 3, 1, 0, 0, 0, 0), (2, 10, 0, 1, 0, 0, 0), (3, 61, 99, 3, 5, 9, 0), (6, 70, 0, 0, 0, 0, 0)]
def am_t98 : List (Nat × am_I) := [(0, 3, 0, 0, 0, 0, 0), (1, 3, 1, 0, 0, 0, 0), (2, 61, 96, 2, 2, 15, 0), (5, 5, 2, 0, 0, 0, 0), (6, 1, 2, 0, 0, 0, 0), (7, 25, 27, 5, 0, 0, 0), (10, 3, 1, 0, 0, 0, 0), (11, 41, 2, 9, 0, 19, 0), (14, 25, 27, 0, 0, 0, 0), (17, 11, 0, 0, 10, 0, 0), (19, 3, 1, 0, 0, 0, 0), (20, 41, 2, 0, 0, 25, 0), (23, 12, 14, 0, 0, 0, 0), (24, 24, 28, 0, 0, 0, 0), (27, 1, 2, 0, 0, 0, 0), (28, 70, 0, 0, 0, 0, 0)]
def am_t99 : List (Nat × am_I) := [(0, 3, 0, 0, 0, 0, 0), (1, 3, 1, 0, 0, 0, 0), (2, 61, 100, 2, 3, 29, 0), (5, 7, 3, 0, 0, 0, 0), (6, 3, 3, 0, 0, 0, 0), (7, 30, 13, 0, 0, 0, 0), (10, 11, 0, 0, 6, 0, 0), (12, 70, 0, 0, 0, 0, 0), (13, 3, 0, 0, 0, 0, 0), (14, 3, 3, 0, 0, 0, 0), (15, 1, 2, 0, 0, 0, 0), (16, 61, 101, 3, 4, 33, 0), (19, 8, 4, 0, 0, 0, 0), (21, 4, 4, 0, 0, 0, 0), (23, 30, 35, 0, 0, 0, 0), (26, 3, 0, 0, 0, 0, 0), (27, 3, 3, 0, 0, 0, 0), (28, 3, 1, 0, 0, 0, 0), (29, 1, 2, 0, 0, 0, 0), (30, 61, 102, 4, 6, 37, 0), (33, 8, 4, 0, 0, 0, 0), (35, 4, 4, 0, 0, 0, 0), (37, 30, 44, 0, 0, 0, 0), (40, 10, 0, 1, 0, 0, 0), (41, 24, 52, 0, 0, 0, 0), (44, 11, 0, 0, 10, 0, 0), (46, 4, 4, 0, 0, 0, 0), (48, 41, 2, 0, 0, 25, 0), (51, 12, 14, 0, 0, 0, 0), (52, 70, 0, 0, 0, 0, 0)]
def am_t100 : List (Nat × am_I) := [(0, 3, 1, 0, 0, 0, 0), (1, 41, 2, 1, 0, 41, 0), (4, 11, 0, 6, 0, 0, 0), (6, 26, 35, 1, 0, 0, 0), (9, 3, 0, 0, 0, 0, 0), (10, 60, 114, 1, 2, 44, 2), (13, 7, 2, 0, 0, 0, 0), (14, 3, 2, 0, 0, 0, 0), (15, 41, 2, 1, 0, 41, 0), (18, 25, 33, 1, 0, 0, 0), (21, 3, 1, 0, 0, 0, 0), (22, 3, 2, 0, 0, 0, 0), (23, 60, 111, 2, 2, 48, 2), (26, 25, 33, 0, 0, 0, 0), (29, 3, 2, 0, 0, 0, 0), (30, 24, 34, 0, 0, 0, 0), (33, 31, 2, 0, 0, 0, 0), (34, 72, 0, 0, 0, 0, 0), (35, 3, 0, 0, 0, 0, 0), (36, 7, 2, 0, 0, 0, 0), (37, 3, 2, 0, 0, 0, 0), (38, 29, 57, 0, 0, 0, 0), (41, 3, 1, 0, 0, 0, 0), (42, 3, 2, 0, 0, 0, 0), (43, 60, 113, 2, 3, 52, 2), (46, 25, 57, 1, 0, 0, 0), (49, 3, 2, 0, 0, 0, 0), (50, 42, 2, 3, 0, 55, 0), (53, 7, 2, 0, 0, 0, 0), (54, 24, 37, 0, 0, 0, 0), (57, 3, 2, 0, 0, 0, 0), (58, 72, 0, 0, 0, 0, 0)]
def am_t101 : List (Nat × am_I) := [(0, 3, 0, 0, 0, 0, 0), (1, 7, 3, 0, 0, 0, 0), (2, 3, 3, 0, 0, 0, 0), (3, 29, 33, 0, 0, 0, 0), (6, 3, 3, 0, 0, 0, 0), (7, 3, 1, 0, 0, 0, 0), (8, 27, 33, 0, 0, 0, 0), (11, 3, 3, 0, 0, 0, 0), (12, 3, 0, 0, 0, 0, 0), (13, 1, 2, 0, 0, 0, 0), (14, 61, 103, 3, 5, 59, 0), (17, 25, 25, 0, 0, 0, 0), (20, 3, 3, 0, 0, 0, 0), (21, 42, 2, 3, 0, 55, 0), (24, 72, 0, 0, 0, 0, 0), (25, 3, 3, 0, 0, 0, 0), (26, 42, 2, 3, 0, 55, 0), (29, 7, 3, 0, 0, 0, 0), (30, 24, 2, 0, 0, 0, 0), (33, 31, 2, 0, 0, 0, 0), (34, 72, 0, 0, 0, 0, 0)]
def am_t102 : List (Nat × am_I) := [(0, 31, 2, 0, 0, 0, 0), (1, 8, 4, 0, 0, 0, 0), (3, 3, 2, 0, 0, 0, 0), (4, 8, 5, 0, 0, 0, 0), (6, 4, 5, 0, 0, 0, 0), (8, 29, 44, 0, 0, 0, 0), (11, 4, 5, 0, 0, 0, 0), (13, 3, 1, 0, 0, 0, 0), (14, 27, 44, 0, 0, 0, 0), (17, 4, 5, 0, 0, 0, 0), (19, 3, 0, 0, 0, 0, 0), (20, 1, 3, 0, 0, 0, 0), (21, 61, 103, 3, 5, 59, 0), (24, 25, 34, 0, 0, 0, 0), (27, 4, 5, 0, 0, 0, 0), (29, 42, 2, 3, 0, 55, 0), (32, 8, 4, 0, 0, 0, 0), (34, 4, 5, 0, 0, 0, 0), (36, 42, 2, 3, 0, 55, 0), (39, 8, 5, 0, 0, 0, 0), (41, 24, 6, 0, 0, 0, 0), (44, 4, 4, 0, 0, 0, 0), (46, 72, 0, 0, 0, 0, 0)]
def am_t103 : List (Nat × am_I) := [(0, 3, 0, 0, 0, 0, 0), (1, 42, 2, 3, 0, 55, 0), (4, 7, 3, 0, 0, 0, 0), (5, 3, 3, 0, 0, 0, 0), (6, 30, 11, 0, 0, 0, 0), (9, 10, 0, 0, 0, 0, 0), (10, 71, 0, 0, 0, 0, 0), (11, 3, 0, 0, 0, 0, 0), (12, 41, 2, 4, 0, 63, 0), (15, 25, 42, 1, 0, 0, 0), (18, 3, 3, 0, 0, 0, 0), (19, 41, 2, 9, 0, 19, 0), (22, 25, 42, 0, 0, 0, 0), (25, 1, 2, 0, 0, 0, 0), (26, 25, 36, 0, 0, 0, 0), (29, 3, 3, 0, 0, 0, 0), (30, 41, 2, 10, 0, 66, 0), (33, 25, 40, 1, 0, 0, 0), (36, 10, 0, 1, 0, 0, 0), (37, 24, 41, 0, 0, 0, 0), (40, 10, 0, 0, 0, 0, 0), (41, 71, 0, 0, 0, 0, 0), (42, 3, 0, 0, 0, 0, 0), (43, 41, 2, 4, 0, 63, 0), (46, 10, 0, 2, 0, 0, 0), (47, 26, 58, 0, 0, 0, 0), (50, 3, 0, 0, 0, 0, 0), (51, 41, 2, 4, 0, 63, 0), (54, 10, 0, 3, 0, 0, 0), (55, 26, 62, 1, 0, 0, 0), (58, 10, 0, 1, 0, 0, 0), (59, 24, 63, 0, 0, 0, 0), (62, 10, 0, 0, 0, 0, 0), (63, 6, 4, 0, 0, 0, 0), (65, 1, 2, 0, 0, 0, 0), (66, 25, 83, 1, 0, 0, 0), (69, 2, 4, 0, 0, 0, 0), (71, 25, 83, 0, 0, 0, 0), (74, 3, 3, 0, 0, 0, 0), (75, 3, 1, 0, 0, 0, 0), (76, 27, 83, 0, 0, 0, 0), (79, 10, 0, 1, 0, 0, 0), (80, 24, 84, 0, 0, 0, 0), (83, 10, 0, 0, 0, 0, 0), (84, 71, 0, 0, 0, 0, 0)]
def am_t104 : List (Nat × am_I) := [(0, 3, 0, 0, 0, 0, 0), (1, 49, 0, 0, 0, 3, 0), (4, 3, 0, 0, 0, 0, 0), (5, 1, 1, 0, 0, 0, 0), (6, 46, 2, 0, 0, 9, 0), (9, 3, 0, 0, 0, 0, 0), (10, 1, 2, 0, 0, 0, 0), (11, 46, 2, 1, 0, 15, 0), (14, 3, 0, 0, 0, 0, 0), (15, 1, 3, 0, 0, 0, 0), (16, 46, 2, 2, 0, 18, 0), (19, 3, 0, 0, 0, 0, 0), (20, 11, 0, 0, 8, 0, 0), (22, 43, 2, 4, 0, 21, 0), (25, 3, 0, 0, 0, 0, 0), (26, 1, 2, 0, 0, 0, 0), (27, 25, 34, 1, 0, 0, 0), (30, 10, 0, 1, 0, 0, 0), (31, 24, 35, 0, 0, 0, 0), (34, 10, 0, 0, 0, 0, 0), (35, 44, 2, 11, 0, 24, 0), (38, 73, 0, 0, 0, 0, 0)]
def am_t105 : List (Nat × am_I) := [(0, 3, 0, 0, 0, 0, 0), (1, 41, 2, 1, 0, 15, 0), (4, 25, 20, 0, 0, 0, 0), (7, 3, 0, 0, 0, 0, 0), (8, 41, 2, 1, 0, 15, 0), (11, 11, 0, 6, 0, 0, 0), (13, 26, 20, 0, 0, 0, 0), (16, 10, 0, 1, 0, 0, 0), (17, 24, 21, 0, 0, 0, 0), (20, 10, 0, 0, 0, 0, 0), (21, 71, 0, 0, 0, 0, 0)]
def am_t106 : List (Nat × am_I) := [(0, 3, 0, 0, 0, 0, 0), (1, 60, 105, 1, 1, 28, 2), (4, 25, 19, 0, 0, 0, 0), (7, 3, 0, 0, 0, 0, 0), (8, 41, 2, 4, 0, 21, 0), (11, 10, 0, 4, 0, 0, 0), (12, 26, 19, 0, 0, 0, 0), (15, 10, 0, 1, 0, 0, 0), (16, 24, 20, 0, 0, 0, 0), (19, 10, 0, 0, 0, 0, 0), (20, 71, 0, 0, 0, 0, 0)]
def am_t107 : List (Nat × am_I) := [(0, 3, 0, 0, 0, 0, 0), (1, 41, 2, 1, 0, 15, 0), (4, 10, 0, 2, 0, 0, 0), (5, 26, 16, 0, 0, 0, 0), (8, 3, 0, 0, 0, 0, 0), (9, 41, 2, 1, 0, 15, 0), (12, 10, 0, 5, 0, 0, 0), (13, 26, 20, 1, 0, 0, 0), (16, 10, 0, 1, 0, 0, 0), (17, 24, 21, 0, 0, 0, 0), (20, 10, 0, 0, 0, 0, 0), (21, 71, 0, 0, 0, 0, 0)]
def am_t108 : List (Nat × am_I) := [(0, 1, 1, 0, 0, 0, 0), (1, 50, 2, 0, 0, 0, 0), (28, 3, 0, 0, 0, 0, 0), (29, 41, 2, 1, 0, 15, 0), (32, 10, 0, 4, 0, 0, 0), (33, 26, 48, 0, 0, 0, 0), (36, 3, 0, 0, 0, 0, 0), (37, 41, 2, 1, 0, 15, 0), (40, 10, 0, 5, 0, 0, 0), (41, 26, 48, 0, 0, 0, 0), (44, 10, 0, 1, 0, 0, 0), (45, 24, 49, 0, 0, 0, 0), (48, 10, 0, 0, 0, 0, 0), (49, 71, 0, 0, 0, 0, 0), (50, 3, 0, 0, 0, 0, 0), (51, 41, 2, 1, 0, 15, 0), (54, 10, 0, 1, 0, 0, 0), (55, 26, 62, 1, 0, 0, 0), (58, 10, 0, 1, 0, 0, 0), (59, 24, 63, 0, 0, 0, 0), (62, 10, 0, 0, 0, 0, 0), (63, 71, 0, 0, 0, 0, 0), (64, 10, 0, 1, 0, 0, 0), (65, 71, 0, 0, 0, 0, 0)]
def am_t109 : List (Nat × am_I) := [(0, 1, 1, 0, 0, 0, 0), (1, 50, 3, 0, 0, 0, 0), (36, 3, 0, 0, 0, 0, 0), (37, 41, 2, 1, 0, 15, 0), (40, 25, 59, 0, 0, 0, 0), (43, 3, 0, 0, 0, 0, 0), (44, 41, 2, 1, 0, 15, 0), (47, 10, 0, 2, 0, 0, 0), (48, 26, 59, 0, 0, 0, 0), (51, 3, 0, 0, 0, 0, 0), (52, 41, 2, 1, 0, 15, 0), (55, 10, 0, 5, 0, 0, 0), (56, 26, 63, 1, 0, 0, 0), (59, 10, 0, 1, 0, 0, 0), (60, 24, 64, 0, 0, 0, 0), (63, 10, 0, 0, 0, 0, 0), (64, 71, 0, 0, 0, 0, 0), (65, 3, 0, 0, 0, 0, 0), (66, 41, 2, 1, 0, 15, 0), (69, 10, 0, 3, 0, 0, 0), (70, 26, 77, 1, 0, 0, 0), (73, 10, 0, 1, 0, 0, 0), (74, 24, 78, 0, 0, 0, 0), (77, 10, 0, 0, 0, 0, 0), (78, 71, 0, 0, 0, 0, 0), (79, 3, 0, 0, 0, 0, 0), (80, 41, 2, 1, 0, 15, 0), (83, 10, 0, 4, 0, 0, 0), (84, 26, 91, 1, 0, 0, 0), (87, 10, 0, 1, 0, 0, 0), (88, 24, 92, 0, 0, 0, 0), (91, 10, 0, 0, 0, 0, 0), (92, 71, 0, 0, 0, 0, 0), (93, 3, 0, 0, 0, 0, 0), (94, 41, 2, 1, 0, 15, 0), (97, 25, 113, 0, 0, 0, 0), (100, 3, 0, 0, 0, 0, 0), (101, 41, 2, 1, 0, 15, 0), (104, 11, 0, 6, 0, 0, 0), (106, 26, 113, 0, 0, 0, 0), (109, 10, 0, 1, 0, 0, 0), (110, 24, 114, 0, 0, 0, 0), (113, 10, 0, 0, 0, 0, 0), (114, 71, 0, 0, 0, 0, 0), (115, 10, 0, 0, 0, 0, 0), (116, 71, 0, 0, 0, 0, 0)]
def am_t110 : List (Nat × am_I) := [(0, 3, 0, 0, 0, 0, 0), (1, 42, 2, 3, 0, 32, 0), (4, 3, 1, 0, 0, 0, 0), (5, 28, 20, 0, 0, 0, 0), (8, 3, 0, 0, 0, 0, 0), (9, 41, 2, 4, 0, 21, 0), (12, 1, 2, 0, 0, 0, 0), (13, 26, 20, 1, 0, 0, 0), (16, 10, 0, 1, 0, 0, 0), (17, 24, 21, 0, 0, 0, 0), (20, 10, 0, 0, 0, 0, 0), (21, 71, 0, 0, 0, 0, 0)]
def am_t111 : List (Nat × am_I) := [(0, 3, 0, 0, 0, 0, 0), (1, 41, 2, 12, 0, 36, 0), (4, 10, 0, 1, 0, 0, 0), (5, 3, 1, 0, 0, 0, 0), (6, 41, 2, 0, 0, 9, 0), (9, 12, 19, 0, 0, 0, 0), (10, 12, 17, 0, 0, 0, 0), (11, 25, 18, 0, 0, 0, 0), (14, 10, 0, 1, 0, 0, 0), (15, 24, 19, 0, 0, 0, 0), (18, 10, 0, 0, 0, 0, 0), (19, 71, 0, 0, 0, 0, 0)]
def am_t112 : List (Nat × am_I) := [(0, 10, 0, 0, 0, 0, 0), (1, 5, 1, 0, 0, 0, 0), (2, 3, 0, 0, 0, 0, 0), (3, 42, 2, 5, 0, 39, 0), (6, 7, 2, 0, 0, 0, 0), (7, 3, 2, 0, 0, 0, 0), (8, 29, 45, 0, 0, 0, 0), (11, 3, 2, 0, 0, 0, 0), (12, 41, 2, 4, 0, 21, 0), (15, 25, 34, 0, 0, 0, 0), (18, 3, 2, 0, 0, 0, 0), (19, 41, 2, 4, 0, 21, 0), (22, 10, 0, 1, 0, 0, 0), (23, 26, 34, 0, 0, 0, 0), (26, 3, 2, 0, 0, 0, 0), (27, 41, 2, 4, 0, 21, 0), (30, 10, 0, 2, 0, 0, 0), (31, 26, 37, 1, 0, 0, 0), (34, 9, 1, 1, 0, 0, 0), (37, 3, 2, 0, 0, 0, 0), (38, 42, 2, 8, 0, 42, 0), (41, 7, 2, 0, 0, 0, 0), (42, 24, 7, 0, 0, 0, 0), (45, 1, 1, 0, 0, 0, 0), (46, 3, 0, 0, 0, 0, 0), (47, 41, 2, 2, 0, 18, 0), (50, 26, 57, 2, 0, 0, 0), (53, 10, 0, 1, 0, 0, 0), (54, 24, 58, 0, 0, 0, 0), (57, 10, 0, 0, 0, 0, 0), (58, 71, 0, 0, 0, 0, 0)]
def am_t113 : List (Nat × am_I) := [(0, 3, 0, 0, 0, 0, 0), (1, 7, 2, 0, 0, 0, 0), (2, 3, 2, 0, 0, 0, 0), (3, 29, 21, 0, 0, 0, 0), (6, 3, 2, 0, 0, 0, 0), (7, 3, 1, 0, 0, 0, 0), (8, 28, 13, 0, 0, 0, 0), (11, 10, 0, 1, 0, 0, 0), (12, 71, 0, 0, 0, 0, 0), (13, 3, 2, 0, 0, 0, 0), (14, 42, 2, 3, 0, 32, 0), (17, 7, 2, 0, 0, 0, 0), (18, 24, 2, 0, 0, 0, 0), (21, 10, 0, 0, 0, 0, 0), (22, 71, 0, 0, 0, 0, 0)]
def am_t114 : List (Nat × am_I) := [(0, 3, 0, 0, 0, 0, 0), (1, 7, 1, 0, 0, 0, 0), (2, 3, 1, 0, 0, 0, 0), (3, 42, 2, 3, 0, 32, 0), (6, 29, 17, 0, 0, 0, 0), (9, 3, 1, 0, 0, 0, 0), (10, 42, 2, 3, 0, 32, 0), (13, 7, 1, 0, 0, 0, 0), (14, 24, 2, 0, 0, 0, 0), (17, 3, 1, 0, 0, 0, 0), (18, 72, 0, 0, 0, 0, 0)]
def am_t115 : List (Nat × am_I) := [(0, 3, 0, 0, 0, 0, 0), (1, 42, 2, 5, 0, 39, 0), (4, 29, 12, 0, 0, 0, 0), (7, 3, 0, 0, 0, 0, 0), (8, 42, 2, 5, 0, 39, 0), (11, 72, 0, 0, 0, 0, 0), (12, 3, 0, 0, 0, 0, 0), (13, 7, 2, 0, 0, 0, 0), (14, 3, 2, 0, 0, 0, 0), (15, 29, 43, 0, 0, 0, 0), (18, 3, 2, 0, 0, 0, 0), (19, 3, 1, 0, 0, 0, 0), (20, 27, 43, 0, 0, 0, 0), (23, 3, 2, 0, 0, 0, 0), (24, 42, 2, 8, 0, 42, 0), (27, 29, 35, 0, 0, 0, 0), (30, 3, 2, 0, 0, 0, 0), (31, 42, 2, 8, 0, 42, 0), (34, 72, 0, 0, 0, 0, 0), (35, 3, 2, 0, 0, 0, 0), (36, 42, 2, 3, 0, 32, 0), (39, 7, 2, 0, 0, 0, 0), (40, 24, 14, 0, 0, 0, 0), (43, 31, 2, 0, 0, 0, 0), (44, 72, 0, 0, 0, 0, 0)]
def am_t116 : List (Nat × am_I) := [(0, 3, 0, 0, 0, 0, 0), (1, 3, 1, 0, 0, 0, 0), (2, 45, 2, 3, 0, 32, 0), (5, 3, 0, 0, 0, 0, 0), (6, 1, 2, 0, 0, 0, 0), (7, 43, 2, 4, 0, 21, 0), (10, 3, 0, 0, 0, 0, 0), (11, 3, 1, 0, 0, 0, 0), (12, 42, 2, 6, 0, 45, 0), (15, 45, 2, 7, 0, 48, 0), (18, 3, 1, 0, 0, 0, 0), (19, 42, 2, 6, 0, 45, 0), (22, 30, 33, 0, 0, 0, 0), (25, 3, 1, 0, 0, 0, 0), (26, 3, 0, 0, 0, 0, 0), (27, 45, 2, 5, 0, 39, 0), (30, 24, 41, 0, 0, 0, 0), (33, 3, 1, 0, 0, 0, 0), (34, 42, 2, 6, 0, 45, 0), (37, 3, 0, 0, 0, 0, 0), (38, 45, 2, 8, 0, 42, 0), (41, 3, 1, 0, 0, 0, 0), (42, 3, 0, 0, 0, 0, 0), (43, 45, 2, 6, 0, 45, 0), (46, 73, 0, 0, 0, 0, 0)]
def am_t117 : List (Nat × am_I) := [(0, 3, 0, 0, 0, 0, 0), (1, 42, 2, 3, 0, 32, 0), (4, 30, 8, 0, 0, 0, 0), (7, 73, 0, 0, 0, 0, 0), (8, 3, 0, 0, 0, 0, 0), (9, 42, 2, 7, 0, 48, 0), (12, 30, 29, 0, 0, 0, 0), (15, 3, 0, 0, 0, 0, 0), (16, 42, 2, 3, 0, 32, 0), (19, 3, 0, 0, 0, 0, 0), (20, 42, 2, 8, 0, 42, 0), (23, 45, 2, 5, 0, 39, 0), (26, 24, 40, 0, 0, 0, 0), (29, 3, 0, 0, 0, 0, 0), (30, 42, 2, 7, 0, 48, 0), (33, 3, 0, 0, 0, 0, 0), (34, 42, 2, 8, 0, 42, 0), (37, 45, 2, 8, 0, 42, 0), (40, 3, 0, 0, 0, 0, 0), (41, 42, 2, 8, 0, 42, 0), (44, 30, 61, 0, 0, 0, 0), (47, 3, 0, 0, 0, 0, 0), (48, 42, 2, 3, 0, 32, 0), (51, 3, 0, 0, 0, 0, 0), (52, 42, 2, 7, 0, 48, 0), (55, 45, 2, 6, 0, 45, 0), (58, 24, 72, 0, 0, 0, 0), (61, 3, 0, 0, 0, 0, 0), (62, 42, 2, 8, 0, 42, 0), (65, 3, 0, 0, 0, 0, 0), (66, 42, 2, 7, 0, 48, 0), (69, 45, 2, 7, 0, 48, 0), (72, 3, 0, 0, 0, 0, 0), (73, 31, 2, 0, 0, 0, 0), (74, 45, 2, 3, 0, 32, 0), (77, 3, 0, 0, 0, 0, 0), (78, 11, 0, 0, 8, 0, 0), (80, 43, 2, 4, 0, 21, 0), (83, 3, 0, 0, 0, 0, 0), (84, 31, 2, 0, 0, 0, 0), (85, 45, 2, 7, 0, 48, 0), (88, 3, 0, 0, 0, 0, 0), (89, 31, 2, 0, 0, 0, 0), (90, 45, 2, 8, 0, 42, 0), (93, 73, 0, 0, 0, 0, 0)]
def am_t118 : List (Nat × am_I) := [(0, 1, 0, 0, 0, 0, 0), (1, 1, 1, 0, 0, 0, 0), (2, 12, 16, 0, 0, 0, 0), (3, 5, 2, 0, 0, 0, 0), (4, 1, 0, 0, 0, 0, 0), (5, 1, 1, 0, 0, 0, 0), (6, 12, 18, 0, 0, 0, 0), (7, 25, 18, 3, 0, 0, 0), (10, 1, 2, 0, 0, 0, 0), (11, 25, 18, 0, 0, 0, 0), (14, 1, 2, 0, 0, 0, 0), (15, 1, 1, 0, 0, 0, 0), (16, 12, 13, 0, 0, 0, 0), (17, 70, 0, 0, 0, 0, 0), (18, 1, 2, 0, 0, 0, 0), (19, 70, 0, 0, 0, 0, 0)]
def am_t119_0 : List (Nat × am_I) := [(0, 48, 1, 0, 0, 7, 0), (3, 21, 0, 0, 0, 0, 0), (4, 62, 0, 1, 1, 9, 1), (7, 7, 1, 0, 0, 0, 0), (8, 48, 4, 0, 0, 10, 0), (11, 21, 0, 0, 0, 0, 0), (12, 62, 45, 1, 1, 12, 4), (15, 7, 2, 0, 0, 0, 0), (16, 10, 0, 0, 0, 0, 0), (17, 5, 3, 0, 0, 0, 0), (18, 1, 3, 0, 0, 0, 0), (19, 3, 0, 0, 0, 0, 0), (20, 32, 0, 0, 0, 0, 0), (21, 10, 0, 4, 0, 0, 0), (22, 12, 14, 0, 0, 0, 0), (23, 26, 1135, 4, 0, 0, 0), (26, 3, 0, 0, 0, 0, 0), (27, 1, 3, 0, 0, 0, 0), (28, 33, 15, 0, 0, 0, 0), (29, 11, 0, 31, 0, 0, 0), (31, 12, 17, 0, 0, 0, 0), (32, 50, 4, 0, 0, 0, 0), (164, 3, 1, 0, 0, 0, 0), (165, 60, 1, 1, 2, 13, 1), (168, 3, 2, 0, 0, 0, 0), (169, 60, 46, 1, 1, 16, 4), (172, 24, 1129, 0, 0, 0, 0), (175, 3, 1, 0, 0, 0, 0), (176, 3, 0, 0, 0, 0, 0), (177, 1, 3, 0, 0, 0, 0), (178, 10, 0, 1, 0, 0, 0), (179, 12, 13, 0, 0, 0, 0), (180, 33, 15, 0, 0, 0, 0), (181, 3, 0, 0, 0, 0, 0), (182, 1, 3, 0, 0, 0, 0), (183, 10, 0, 2, 0, 0, 0), (184, 12, 13, 0, 0, 0, 0), (185, 33, 15, 0, 0, 0, 0), (186, 60, 2, 3, 4, 17, 1), (189, 3, 2, 0, 0, 0, 0)]
def am_t119_1 : List (Nat × am_I) := [(190, 3, 0, 0, 0, 0, 0), (191, 1, 3, 0, 0, 0, 0), (192, 10, 0, 1, 0, 0, 0), (193, 12, 13, 0, 0, 0, 0), (194, 33, 15, 0, 0, 0, 0), (195, 3, 0, 0, 0, 0, 0), (196, 1, 3, 0, 0, 0, 0), (197, 10, 0, 2, 0, 0, 0), (198, 12, 13, 0, 0, 0, 0), (199, 33, 15, 0, 0, 0, 0), (200, 60, 62, 3, 4, 21, 4), (203, 26, 1129, 0, 0, 0, 0), (206, 10, 0, 0, 0, 0, 0), (207, 71, 0, 0, 0, 0, 0), (208, 3, 1, 0, 0, 0, 0), (209, 3, 0, 0, 0, 0, 0), (210, 1, 3, 0, 0, 0, 0), (211, 10, 0, 1, 0, 0, 0), (212, 12, 13, 0, 0, 0, 0), (213, 33, 15, 0, 0, 0, 0), (214, 3, 0, 0, 0, 0, 0), (215, 1, 3, 0, 0, 0, 0), (216, 10, 0, 2, 0, 0, 0), (217, 12, 13, 0, 0, 0, 0), (218, 33, 15, 0, 0, 0, 0), (219, 3, 0, 0, 0, 0, 0), (220, 1, 3, 0, 0, 0, 0), (221, 10, 0, 3, 0, 0, 0), (222, 12, 13, 0, 0, 0, 0), (223, 33, 15, 0, 0, 0, 0), (224, 60, 3, 4, 6, 22, 1), (227, 3, 2, 0, 0, 0, 0), (228, 3, 0, 0, 0, 0, 0), (229, 1, 3, 0, 0, 0, 0), (230, 10, 0, 1, 0, 0, 0), (231, 12, 13, 0, 0, 0, 0), (232, 33, 15, 0, 0, 0, 0), (233, 3, 0, 0, 0, 0, 0), (234, 1, 3, 0, 0, 0, 0), (235, 10, 0, 2, 0, 0, 0)]
def am_t119_2 : List (Nat × am_I) := [(236, 12, 13, 0, 0, 0, 0), (237, 33, 15, 0, 0, 0, 0), (238, 3, 0, 0, 0, 0, 0), (239, 1, 3, 0, 0, 0, 0), (240, 10, 0, 3, 0, 0, 0), (241, 12, 13, 0, 0, 0, 0), (242, 33, 15, 0, 0, 0, 0), (243, 60, 64, 4, 4, 26, 4), (246, 26, 1129, 0, 0, 0, 0), (249, 10, 0, 0, 0, 0, 0), (250, 71, 0, 0, 0, 0, 0), (251, 3, 1, 0, 0, 0, 0), (252, 3, 0, 0, 0, 0, 0), (253, 1, 3, 0, 0, 0, 0), (254, 10, 0, 1, 0, 0, 0), (255, 12, 13, 0, 0, 0, 0), (256, 33, 15, 0, 0, 0, 0), (257, 3, 0, 0, 0, 0, 0), (258, 1, 3, 0, 0, 0, 0), (259, 10, 0, 2, 0, 0, 0), (260, 12, 13, 0, 0, 0, 0), (261, 33, 15, 0, 0, 0, 0), (262, 60, 4, 3, 5, 27, 1), (265, 3, 2, 0, 0, 0, 0), (266, 3, 0, 0, 0, 0, 0), (267, 1, 3, 0, 0, 0, 0), (268, 10, 0, 1, 0, 0, 0), (269, 12, 13, 0, 0, 0, 0), (270, 33, 15, 0, 0, 0, 0), (271, 3, 0, 0, 0, 0, 0), (272, 1, 3, 0, 0, 0, 0), (273, 10, 0, 2, 0, 0, 0), (274, 12, 13, 0, 0, 0, 0), (275, 33, 15, 0, 0, 0, 0), (276, 60, 65, 3, 4, 30, 4), (279, 26, 1129, 0, 0, 0, 0), (282, 10, 0, 0, 0, 0, 0), (283, 71, 0, 0, 0, 0, 0), (284, 3, 1, 0, 0, 0, 0), (285, 3, 0, 0, 0, 0, 0)]
def am_t119_3 : List (Nat × am_I) := [(286, 1, 3, 0, 0, 0, 0), (287, 10, 0, 1, 0, 0, 0), (288, 12, 13, 0, 0, 0, 0), (289, 33, 15, 0, 0, 0, 0), (290, 3, 0, 0, 0, 0, 0), (291, 1, 3, 0, 0, 0, 0), (292, 10, 0, 2, 0, 0, 0), (293, 12, 13, 0, 0, 0, 0), (294, 33, 15, 0, 0, 0, 0), (295, 25, 302, 0, 0, 0, 0), (298, 10, 0, 1, 0, 0, 0), (299, 24, 303, 0, 0, 0, 0), (302, 10, 0, 0, 0, 0, 0), (303, 60, 5, 3, 4, 31, 1), (306, 3, 2, 0, 0, 0, 0), (307, 3, 0, 0, 0, 0, 0), (308, 1, 3, 0, 0, 0, 0), (309, 10, 0, 1, 0, 0, 0), (310, 12, 13, 0, 0, 0, 0), (311, 33, 15, 0, 0, 0, 0), (312, 3, 0, 0, 0, 0, 0), (313, 1, 3, 0, 0, 0, 0), (314, 10, 0, 2, 0, 0, 0), (315, 12, 13, 0, 0, 0, 0), (316, 33, 15, 0, 0, 0, 0), (317, 25, 324, 0, 0, 0, 0), (320, 10, 0, 1, 0, 0, 0), (321, 24, 325, 0, 0, 0, 0), (324, 10, 0, 0, 0, 0, 0), (325, 60, 66, 3, 4, 35, 4), (328, 26, 1129, 0, 0, 0, 0), (331, 10, 0, 0, 0, 0, 0), (332, 71, 0, 0, 0, 0, 0), (333, 3, 1, 0, 0, 0, 0), (334, 3, 0, 0, 0, 0, 0), (335, 1, 3, 0, 0, 0, 0), (336, 10, 0, 1, 0, 0, 0), (337, 12, 13, 0, 0, 0, 0), (338, 33, 15, 0, 0, 0, 0), (339, 3, 0, 0, 0, 0, 0)]
def am_t119_4 : List (Nat × am_I) := [(340, 1, 3, 0, 0, 0, 0), (341, 10, 0, 2, 0, 0, 0), (342, 12, 13, 0, 0, 0, 0), (343, 33, 15, 0, 0, 0, 0), (344, 25, 351, 0, 0, 0, 0), (347, 10, 0, 1, 0, 0, 0), (348, 24, 352, 0, 0, 0, 0), (351, 10, 0, 0, 0, 0, 0), (352, 60, 6, 3, 4, 36, 1), (355, 3, 2, 0, 0, 0, 0), (356, 3, 0, 0, 0, 0, 0), (357, 1, 3, 0, 0, 0, 0), (358, 10, 0, 1, 0, 0, 0), (359, 12, 13, 0, 0, 0, 0), (360, 33, 15, 0, 0, 0, 0), (361, 3, 0, 0, 0, 0, 0), (362, 1, 3, 0, 0, 0, 0), (363, 10, 0, 2, 0, 0, 0), (364, 12, 13, 0, 0, 0, 0), (365, 33, 15, 0, 0, 0, 0), (366, 25, 373, 0, 0, 0, 0), (369, 10, 0, 1, 0, 0, 0), (370, 24, 374, 0, 0, 0, 0), (373, 10, 0, 0, 0, 0, 0), (374, 60, 67, 3, 4, 39, 4), (377, 26, 1129, 0, 0, 0, 0), (380, 10, 0, 0, 0, 0, 0), (381, 71, 0, 0, 0, 0, 0), (382, 3, 1, 0, 0, 0, 0), (383, 3, 0, 0, 0, 0, 0), (384, 1, 3, 0, 0, 0, 0), (385, 10, 0, 1, 0, 0, 0), (386, 12, 13, 0, 0, 0, 0), (387, 33, 15, 0, 0, 0, 0), (388, 3, 0, 0, 0, 0, 0), (389, 1, 3, 0, 0, 0, 0), (390, 10, 0, 2, 0, 0, 0), (391, 12, 13, 0, 0, 0, 0), (392, 33, 15, 0, 0, 0, 0), (393, 25, 400, 0, 0, 0, 0)]
def am_t119_5 : List (Nat × am_I) := [(396, 10, 0, 1, 0, 0, 0), (397, 24, 401, 0, 0, 0, 0), (400, 10, 0, 0, 0, 0, 0), (401, 60, 7, 3, 4, 40, 1), (404, 3, 2, 0, 0, 0, 0), (405, 3, 0, 0, 0, 0, 0), (406, 1, 3, 0, 0, 0, 0), (407, 10, 0, 1, 0, 0, 0), (408, 12, 13, 0, 0, 0, 0), (409, 33, 15, 0, 0, 0, 0), (410, 3, 0, 0, 0, 0, 0), (411, 1, 3, 0, 0, 0, 0), (412, 10, 0, 2, 0, 0, 0), (413, 12, 13, 0, 0, 0, 0), (414, 33, 15, 0, 0, 0, 0), (415, 25, 422, 0, 0, 0, 0), (418, 10, 0, 1, 0, 0, 0), (419, 24, 423, 0, 0, 0, 0), (422, 10, 0, 0, 0, 0, 0), (423, 60, 68, 3, 4, 43, 4), (426, 26, 1129, 0, 0, 0, 0), (429, 10, 0, 0, 0, 0, 0), (430, 71, 0, 0, 0, 0, 0), (431, 3, 1, 0, 0, 0, 0), (432, 3, 0, 0, 0, 0, 0), (433, 1, 3, 0, 0, 0, 0), (434, 10, 0, 1, 0, 0, 0), (435, 12, 13, 0, 0, 0, 0), (436, 33, 15, 0, 0, 0, 0), (437, 3, 0, 0, 0, 0, 0), (438, 1, 3, 0, 0, 0, 0), (439, 10, 0, 2, 0, 0, 0), (440, 12, 13, 0, 0, 0, 0), (441, 33, 15, 0, 0, 0, 0), (442, 25, 449, 0, 0, 0, 0), (445, 10, 0, 1, 0, 0, 0), (446, 24, 450, 0, 0, 0, 0), (449, 10, 0, 0, 0, 0, 0), (450, 60, 8, 3, 4, 44, 1), (453, 3, 2, 0, 0, 0, 0)]
def am_t119_6 : List (Nat × am_I) := [(454, 3, 0, 0, 0, 0, 0), (455, 1, 3, 0, 0, 0, 0), (456, 10, 0, 1, 0, 0, 0), (457, 12, 13, 0, 0, 0, 0), (458, 33, 15, 0, 0, 0, 0), (459, 3, 0, 0, 0, 0, 0), (460, 1, 3, 0, 0, 0, 0), (461, 10, 0, 2, 0, 0, 0), (462, 12, 13, 0, 0, 0, 0), (463, 33, 15, 0, 0, 0, 0), (464, 25, 471, 0, 0, 0, 0), (467, 10, 0, 1, 0, 0, 0), (468, 24, 472, 0, 0, 0, 0), (471, 10, 0, 0, 0, 0, 0), (472, 60, 69, 3, 4, 47, 4), (475, 26, 1129, 0, 0, 0, 0), (478, 10, 0, 0, 0, 0, 0), (479, 71, 0, 0, 0, 0, 0), (480, 3, 1, 0, 0, 0, 0), (481, 3, 0, 0, 0, 0, 0), (482, 1, 3, 0, 0, 0, 0), (483, 10, 0, 1, 0, 0, 0), (484, 12, 13, 0, 0, 0, 0), (485, 33, 15, 0, 0, 0, 0), (486, 3, 0, 0, 0, 0, 0), (487, 1, 3, 0, 0, 0, 0), (488, 10, 0, 2, 0, 0, 0), (489, 12, 13, 0, 0, 0, 0), (490, 33, 15, 0, 0, 0, 0), (491, 3, 0, 0, 0, 0, 0), (492, 1, 3, 0, 0, 0, 0), (493, 10, 0, 3, 0, 0, 0), (494, 12, 13, 0, 0, 0, 0), (495, 33, 15, 0, 0, 0, 0), (496, 25, 503, 0, 0, 0, 0), (499, 10, 0, 1, 0, 0, 0), (500, 24, 504, 0, 0, 0, 0), (503, 10, 0, 0, 0, 0, 0), (504, 60, 9, 4, 6, 48, 1), (507, 3, 2, 0, 0, 0, 0)]
def am_t119_7 : List (Nat × am_I) := [(508, 3, 0, 0, 0, 0, 0), (509, 1, 3, 0, 0, 0, 0), (510, 10, 0, 1, 0, 0, 0), (511, 12, 13, 0, 0, 0, 0), (512, 33, 15, 0, 0, 0, 0), (513, 3, 0, 0, 0, 0, 0), (514, 1, 3, 0, 0, 0, 0), (515, 10, 0, 2, 0, 0, 0), (516, 12, 13, 0, 0, 0, 0), (517, 33, 15, 0, 0, 0, 0), (518, 3, 0, 0, 0, 0, 0), (519, 1, 3, 0, 0, 0, 0), (520, 10, 0, 3, 0, 0, 0), (521, 12, 13, 0, 0, 0, 0), (522, 33, 15, 0, 0, 0, 0), (523, 25, 530, 0, 0, 0, 0), (526, 10, 0, 1, 0, 0, 0), (527, 24, 531, 0, 0, 0, 0), (530, 10, 0, 0, 0, 0, 0), (531, 60, 70, 4, 5, 52, 4), (534, 26, 1129, 0, 0, 0, 0), (537, 10, 0, 0, 0, 0, 0), (538, 71, 0, 0, 0, 0, 0), (539, 3, 1, 0, 0, 0, 0), (540, 3, 0, 0, 0, 0, 0), (541, 1, 3, 0, 0, 0, 0), (542, 10, 0, 1, 0, 0, 0), (543, 12, 13, 0, 0, 0, 0), (544, 33, 15, 0, 0, 0, 0), (545, 3, 0, 0, 0, 0, 0), (546, 1, 3, 0, 0, 0, 0), (547, 10, 0, 2, 0, 0, 0), (548, 12, 13, 0, 0, 0, 0), (549, 33, 15, 0, 0, 0, 0), (550, 60, 10, 3, 6, 53, 1), (553, 3, 2, 0, 0, 0, 0), (554, 3, 0, 0, 0, 0, 0), (555, 1, 3, 0, 0, 0, 0), (556, 10, 0, 1, 0, 0, 0), (557, 12, 13, 0, 0, 0, 0)]
def am_t119_8 : List (Nat × am_I) := [(558, 33, 15, 0, 0, 0, 0), (559, 3, 0, 0, 0, 0, 0), (560, 1, 3, 0, 0, 0, 0), (561, 10, 0, 2, 0, 0, 0), (562, 12, 13, 0, 0, 0, 0), (563, 33, 15, 0, 0, 0, 0), (564, 60, 72, 3, 4, 56, 4), (567, 26, 1129, 0, 0, 0, 0), (570, 10, 0, 0, 0, 0, 0), (571, 71, 0, 0, 0, 0, 0), (572, 3, 1, 0, 0, 0, 0), (573, 3, 0, 0, 0, 0, 0), (574, 1, 3, 0, 0, 0, 0), (575, 10, 0, 1, 0, 0, 0), (576, 12, 13, 0, 0, 0, 0), (577, 33, 15, 0, 0, 0, 0), (578, 3, 0, 0, 0, 0, 0), (579, 1, 3, 0, 0, 0, 0), (580, 10, 0, 2, 0, 0, 0), (581, 12, 13, 0, 0, 0, 0), (582, 33, 15, 0, 0, 0, 0), (583, 60, 11, 3, 6, 57, 1), (586, 3, 2, 0, 0, 0, 0), (587, 3, 0, 0, 0, 0, 0), (588, 1, 3, 0, 0, 0, 0), (589, 10, 0, 1, 0, 0, 0), (590, 12, 13, 0, 0, 0, 0), (591, 33, 15, 0, 0, 0, 0), (592, 3, 0, 0, 0, 0, 0), (593, 1, 3, 0, 0, 0, 0), (594, 10, 0, 2, 0, 0, 0), (595, 12, 13, 0, 0, 0, 0), (596, 33, 15, 0, 0, 0, 0), (597, 60, 73, 3, 4, 60, 4), (600, 26, 1129, 0, 0, 0, 0), (603, 10, 0, 0, 0, 0, 0), (604, 71, 0, 0, 0, 0, 0), (605, 3, 1, 0, 0, 0, 0), (606, 3, 0, 0, 0, 0, 0), (607, 1, 3, 0, 0, 0, 0)]
def am_t119_9 : List (Nat × am_I) := [(608, 10, 0, 1, 0, 0, 0), (609, 12, 13, 0, 0, 0, 0), (610, 33, 15, 0, 0, 0, 0), (611, 3, 0, 0, 0, 0, 0), (612, 1, 3, 0, 0, 0, 0), (613, 10, 0, 2, 0, 0, 0), (614, 12, 13, 0, 0, 0, 0), (615, 33, 15, 0, 0, 0, 0), (616, 3, 0, 0, 0, 0, 0), (617, 1, 3, 0, 0, 0, 0), (618, 10, 0, 3, 0, 0, 0), (619, 12, 13, 0, 0, 0, 0), (620, 33, 15, 0, 0, 0, 0), (621, 60, 12, 4, 8, 61, 1), (624, 3, 2, 0, 0, 0, 0), (625, 3, 0, 0, 0, 0, 0), (626, 1, 3, 0, 0, 0, 0), (627, 10, 0, 1, 0, 0, 0), (628, 12, 13, 0, 0, 0, 0), (629, 33, 15, 0, 0, 0, 0), (630, 3, 0, 0, 0, 0, 0), (631, 1, 3, 0, 0, 0, 0), (632, 10, 0, 2, 0, 0, 0), (633, 12, 13, 0, 0, 0, 0), (634, 33, 15, 0, 0, 0, 0), (635, 3, 0, 0, 0, 0, 0), (636, 1, 3, 0, 0, 0, 0), (637, 10, 0, 3, 0, 0, 0), (638, 12, 13, 0, 0, 0, 0), (639, 33, 15, 0, 0, 0, 0), (640, 60, 74, 4, 6, 64, 4), (643, 26, 1129, 0, 0, 0, 0), (646, 10, 0, 0, 0, 0, 0), (647, 71, 0, 0, 0, 0, 0), (648, 3, 1, 0, 0, 0, 0), (649, 3, 0, 0, 0, 0, 0), (650, 1, 3, 0, 0, 0, 0), (651, 10, 0, 1, 0, 0, 0), (652, 12, 13, 0, 0, 0, 0), (653, 33, 15, 0, 0, 0, 0)]
def am_t119_10 : List (Nat × am_I) := [(654, 3, 0, 0, 0, 0, 0), (655, 1, 3, 0, 0, 0, 0), (656, 10, 0, 2, 0, 0, 0), (657, 12, 13, 0, 0, 0, 0), (658, 33, 15, 0, 0, 0, 0), (659, 60, 13, 3, 6, 65, 1), (662, 3, 2, 0, 0, 0, 0), (663, 3, 0, 0, 0, 0, 0), (664, 1, 3, 0, 0, 0, 0), (665, 10, 0, 1, 0, 0, 0), (666, 12, 13, 0, 0, 0, 0), (667, 33, 15, 0, 0, 0, 0), (668, 3, 0, 0, 0, 0, 0), (669, 1, 3, 0, 0, 0, 0), (670, 10, 0, 2, 0, 0, 0), (671, 12, 13, 0, 0, 0, 0), (672, 33, 15, 0, 0, 0, 0), (673, 60, 75, 3, 4, 68, 4), (676, 26, 1129, 0, 0, 0, 0), (679, 10, 0, 0, 0, 0, 0), (680, 71, 0, 0, 0, 0, 0), (681, 3, 1, 0, 0, 0, 0), (682, 3, 0, 0, 0, 0, 0), (683, 1, 3, 0, 0, 0, 0), (684, 10, 0, 1, 0, 0, 0), (685, 12, 13, 0, 0, 0, 0), (686, 33, 15, 0, 0, 0, 0), (687, 3, 0, 0, 0, 0, 0), (688, 1, 3, 0, 0, 0, 0), (689, 10, 0, 2, 0, 0, 0), (690, 12, 13, 0, 0, 0, 0), (691, 33, 15, 0, 0, 0, 0), (692, 60, 14, 3, 6, 69, 1), (695, 3, 2, 0, 0, 0, 0), (696, 3, 0, 0, 0, 0, 0), (697, 1, 3, 0, 0, 0, 0), (698, 10, 0, 1, 0, 0, 0), (699, 12, 13, 0, 0, 0, 0), (700, 33, 15, 0, 0, 0, 0), (701, 3, 0, 0, 0, 0, 0)]
def am_t119_11 : List (Nat × am_I) := [(702, 1, 3, 0, 0, 0, 0), (703, 10, 0, 2, 0, 0, 0), (704, 12, 13, 0, 0, 0, 0), (705, 33, 15, 0, 0, 0, 0), (706, 60, 76, 3, 4, 72, 4), (709, 26, 1129, 0, 0, 0, 0), (712, 10, 0, 0, 0, 0, 0), (713, 71, 0, 0, 0, 0, 0), (714, 3, 1, 0, 0, 0, 0), (715, 3, 0, 0, 0, 0, 0), (716, 1, 3, 0, 0, 0, 0), (717, 10, 0, 1, 0, 0, 0), (718, 12, 13, 0, 0, 0, 0), (719, 33, 15, 0, 0, 0, 0), (720, 60, 15, 2, 5, 73, 1), (723, 3, 2, 0, 0, 0, 0), (724, 3, 0, 0, 0, 0, 0), (725, 1, 3, 0, 0, 0, 0), (726, 10, 0, 1, 0, 0, 0), (727, 12, 13, 0, 0, 0, 0), (728, 33, 15, 0, 0, 0, 0), (729, 60, 77, 2, 4, 77, 4), (732, 26, 1129, 0, 0, 0, 0), (735, 10, 0, 0, 0, 0, 0), (736, 71, 0, 0, 0, 0, 0), (737, 3, 1, 0, 0, 0, 0), (738, 3, 0, 0, 0, 0, 0), (739, 1, 3, 0, 0, 0, 0), (740, 10, 0, 1, 0, 0, 0), (741, 12, 13, 0, 0, 0, 0), (742, 33, 15, 0, 0, 0, 0), (743, 3, 0, 0, 0, 0, 0), (744, 1, 3, 0, 0, 0, 0), (745, 10, 0, 2, 0, 0, 0), (746, 12, 13, 0, 0, 0, 0), (747, 33, 15, 0, 0, 0, 0), (748, 60, 16, 3, 7, 78, 1), (751, 3, 2, 0, 0, 0, 0), (752, 3, 0, 0, 0, 0, 0), (753, 1, 3, 0, 0, 0, 0)]
def am_t119_12 : List (Nat × am_I) := [(754, 10, 0, 1, 0, 0, 0), (755, 12, 13, 0, 0, 0, 0), (756, 33, 15, 0, 0, 0, 0), (757, 3, 0, 0, 0, 0, 0), (758, 1, 3, 0, 0, 0, 0), (759, 10, 0, 2, 0, 0, 0), (760, 12, 13, 0, 0, 0, 0), (761, 33, 15, 0, 0, 0, 0), (762, 60, 78, 3, 6, 81, 4), (765, 26, 1129, 0, 0, 0, 0), (768, 10, 0, 0, 0, 0, 0), (769, 71, 0, 0, 0, 0, 0), (770, 3, 1, 0, 0, 0, 0), (771, 3, 0, 0, 0, 0, 0), (772, 1, 3, 0, 0, 0, 0), (773, 10, 0, 1, 0, 0, 0), (774, 12, 13, 0, 0, 0, 0), (775, 33, 15, 0, 0, 0, 0), (776, 60, 17, 2, 7, 82, 1), (779, 3, 2, 0, 0, 0, 0), (780, 3, 0, 0, 0, 0, 0), (781, 1, 3, 0, 0, 0, 0), (782, 10, 0, 1, 0, 0, 0), (783, 12, 13, 0, 0, 0, 0), (784, 33, 15, 0, 0, 0, 0), (785, 60, 79, 2, 8, 85, 4), (788, 26, 1129, 0, 0, 0, 0), (791, 10, 0, 0, 0, 0, 0), (792, 71, 0, 0, 0, 0, 0), (793, 3, 1, 0, 0, 0, 0), (794, 3, 0, 0, 0, 0, 0), (795, 1, 3, 0, 0, 0, 0), (796, 10, 0, 1, 0, 0, 0), (797, 12, 13, 0, 0, 0, 0), (798, 33, 15, 0, 0, 0, 0), (799, 3, 0, 0, 0, 0, 0), (800, 1, 3, 0, 0, 0, 0), (801, 10, 0, 2, 0, 0, 0), (802, 12, 13, 0, 0, 0, 0), (803, 33, 15, 0, 0, 0, 0)]
def am_t119_13 : List (Nat × am_I) := [(804, 60, 18, 3, 5, 86, 1), (807, 3, 2, 0, 0, 0, 0), (808, 3, 0, 0, 0, 0, 0), (809, 1, 3, 0, 0, 0, 0), (810, 10, 0, 1, 0, 0, 0), (811, 12, 13, 0, 0, 0, 0), (812, 33, 15, 0, 0, 0, 0), (813, 3, 0, 0, 0, 0, 0), (814, 1, 3, 0, 0, 0, 0), (815, 10, 0, 2, 0, 0, 0), (816, 12, 13, 0, 0, 0, 0), (817, 33, 15, 0, 0, 0, 0), (818, 60, 80, 3, 4, 89, 4), (821, 26, 1129, 0, 0, 0, 0), (824, 10, 0, 0, 0, 0, 0), (825, 71, 0, 0, 0, 0, 0), (826, 3, 1, 0, 0, 0, 0), (827, 3, 0, 0, 0, 0, 0), (828, 1, 3, 0, 0, 0, 0), (829, 10, 0, 1, 0, 0, 0), (830, 12, 13, 0, 0, 0, 0), (831, 33, 15, 0, 0, 0, 0), (832, 3, 0, 0, 0, 0, 0), (833, 1, 3, 0, 0, 0, 0), (834, 10, 0, 2, 0, 0, 0), (835, 12, 13, 0, 0, 0, 0), (836, 33, 15, 0, 0, 0, 0), (837, 60, 19, 3, 6, 90, 1), (840, 3, 2, 0, 0, 0, 0), (841, 3, 0, 0, 0, 0, 0), (842, 1, 3, 0, 0, 0, 0), (843, 10, 0, 1, 0, 0, 0), (844, 12, 13, 0, 0, 0, 0), (845, 33, 15, 0, 0, 0, 0), (846, 3, 0, 0, 0, 0, 0), (847, 1, 3, 0, 0, 0, 0), (848, 10, 0, 2, 0, 0, 0), (849, 12, 13, 0, 0, 0, 0), (850, 33, 15, 0, 0, 0, 0), (851, 60, 81, 3, 4, 93, 4)]
def am_t119_14 : List (Nat × am_I) := [(854, 26, 1129, 0, 0, 0, 0), (857, 10, 0, 0, 0, 0, 0), (858, 71, 0, 0, 0, 0, 0), (859, 3, 1, 0, 0, 0, 0), (860, 3, 0, 0, 0, 0, 0), (861, 1, 3, 0, 0, 0, 0), (862, 10, 0, 1, 0, 0, 0), (863, 12, 13, 0, 0, 0, 0), (864, 33, 15, 0, 0, 0, 0), (865, 60, 20, 2, 3, 94, 1), (868, 3, 2, 0, 0, 0, 0), (869, 3, 0, 0, 0, 0, 0), (870, 1, 3, 0, 0, 0, 0), (871, 10, 0, 1, 0, 0, 0), (872, 12, 13, 0, 0, 0, 0), (873, 33, 15, 0, 0, 0, 0), (874, 60, 82, 2, 2, 97, 4), (877, 26, 1129, 0, 0, 0, 0), (880, 10, 0, 0, 0, 0, 0), (881, 71, 0, 0, 0, 0, 0), (882, 3, 1, 0, 0, 0, 0), (883, 3, 0, 0, 0, 0, 0), (884, 1, 3, 0, 0, 0, 0), (885, 10, 0, 1, 0, 0, 0), (886, 12, 13, 0, 0, 0, 0), (887, 33, 15, 0, 0, 0, 0), (888, 60, 21, 2, 3, 98, 1), (891, 3, 2, 0, 0, 0, 0), (892, 3, 0, 0, 0, 0, 0), (893, 1, 3, 0, 0, 0, 0), (894, 10, 0, 1, 0, 0, 0), (895, 12, 13, 0, 0, 0, 0), (896, 33, 15, 0, 0, 0, 0), (897, 60, 83, 2, 3, 101, 4), (900, 26, 1129, 0, 0, 0, 0), (903, 10, 0, 0, 0, 0, 0), (904, 71, 0, 0, 0, 0, 0), (905, 3, 1, 0, 0, 0, 0), (906, 3, 0, 0, 0, 0, 0), (907, 1, 3, 0, 0, 0, 0)]
def am_t119_15 : List (Nat × am_I) := [(908, 10, 0, 1, 0, 0, 0), (909, 12, 13, 0, 0, 0, 0), (910, 33, 15, 0, 0, 0, 0), (911, 60, 22, 2, 3, 102, 1), (914, 3, 2, 0, 0, 0, 0), (915, 3, 0, 0, 0, 0, 0), (916, 1, 3, 0, 0, 0, 0), (917, 10, 0, 1, 0, 0, 0), (918, 12, 13, 0, 0, 0, 0), (919, 33, 15, 0, 0, 0, 0), (920, 60, 84, 2, 2, 105, 4), (923, 26, 1129, 0, 0, 0, 0), (926, 10, 0, 0, 0, 0, 0), (927, 71, 0, 0, 0, 0, 0), (928, 3, 1, 0, 0, 0, 0), (929, 3, 0, 0, 0, 0, 0), (930, 1, 3, 0, 0, 0, 0), (931, 10, 0, 1, 0, 0, 0), (932, 12, 13, 0, 0, 0, 0), (933, 33, 15, 0, 0, 0, 0), (934, 3, 0, 0, 0, 0, 0), (935, 1, 3, 0, 0, 0, 0), (936, 10, 0, 2, 0, 0, 0), (937, 12, 13, 0, 0, 0, 0), (938, 33, 15, 0, 0, 0, 0), (939, 60, 23, 3, 6, 106, 1), (942, 3, 2, 0, 0, 0, 0), (943, 3, 0, 0, 0, 0, 0), (944, 1, 3, 0, 0, 0, 0), (945, 10, 0, 1, 0, 0, 0), (946, 12, 13, 0, 0, 0, 0), (947, 33, 15, 0, 0, 0, 0), (948, 3, 0, 0, 0, 0, 0), (949, 1, 3, 0, 0, 0, 0), (950, 10, 0, 2, 0, 0, 0), (951, 12, 13, 0, 0, 0, 0), (952, 33, 15, 0, 0, 0, 0), (953, 60, 85, 3, 6, 109, 4), (956, 26, 1129, 0, 0, 0, 0), (959, 10, 0, 0, 0, 0, 0)]
def am_t119_16 : List (Nat × am_I) := [(960, 71, 0, 0, 0, 0, 0), (961, 3, 1, 0, 0, 0, 0), (962, 3, 0, 0, 0, 0, 0), (963, 1, 3, 0, 0, 0, 0), (964, 10, 0, 1, 0, 0, 0), (965, 12, 13, 0, 0, 0, 0), (966, 33, 15, 0, 0, 0, 0), (967, 60, 24, 2, 3, 110, 1), (970, 3, 2, 0, 0, 0, 0), (971, 3, 0, 0, 0, 0, 0), (972, 1, 3, 0, 0, 0, 0), (973, 10, 0, 1, 0, 0, 0), (974, 12, 13, 0, 0, 0, 0), (975, 33, 15, 0, 0, 0, 0), (976, 60, 86, 2, 2, 113, 4), (979, 26, 1129, 0, 0, 0, 0), (982, 10, 0, 0, 0, 0, 0), (983, 71, 0, 0, 0, 0, 0), (984, 3, 1, 0, 0, 0, 0), (985, 3, 0, 0, 0, 0, 0), (986, 1, 3, 0, 0, 0, 0), (987, 10, 0, 1, 0, 0, 0), (988, 12, 13, 0, 0, 0, 0), (989, 33, 15, 0, 0, 0, 0), (990, 3, 0, 0, 0, 0, 0), (991, 1, 3, 0, 0, 0, 0), (992, 10, 0, 2, 0, 0, 0), (993, 12, 13, 0, 0, 0, 0), (994, 33, 15, 0, 0, 0, 0), (995, 60, 25, 3, 5, 114, 1), (998, 3, 2, 0, 0, 0, 0), (999, 3, 0, 0, 0, 0, 0), (1000, 1, 3, 0, 0, 0, 0), (1001, 10, 0, 1, 0, 0, 0), (1002, 12, 13, 0, 0, 0, 0), (1003, 33, 15, 0, 0, 0, 0), (1004, 3, 0, 0, 0, 0, 0), (1005, 1, 3, 0, 0, 0, 0), (1006, 10, 0, 2, 0, 0, 0), (1007, 12, 13, 0, 0, 0, 0)]
def am_t119_17 : List (Nat × am_I) := [(1008, 33, 15, 0, 0, 0, 0), (1009, 60, 87, 3, 4, 117, 4), (1012, 26, 1129, 0, 0, 0, 0), (1015, 10, 0, 0, 0, 0, 0), (1016, 71, 0, 0, 0, 0, 0), (1017, 3, 1, 0, 0, 0, 0), (1018, 3, 0, 0, 0, 0, 0), (1019, 1, 3, 0, 0, 0, 0), (1020, 10, 0, 1, 0, 0, 0), (1021, 12, 13, 0, 0, 0, 0), (1022, 33, 15, 0, 0, 0, 0), (1023, 60, 26, 2, 3, 118, 1), (1026, 3, 2, 0, 0, 0, 0), (1027, 3, 0, 0, 0, 0, 0), (1028, 1, 3, 0, 0, 0, 0), (1029, 10, 0, 1, 0, 0, 0), (1030, 12, 13, 0, 0, 0, 0), (1031, 33, 15, 0, 0, 0, 0), (1032, 60, 88, 2, 2, 121, 4), (1035, 26, 1129, 0, 0, 0, 0), (1038, 10, 0, 0, 0, 0, 0), (1039, 71, 0, 0, 0, 0, 0), (1040, 3, 1, 0, 0, 0, 0), (1041, 3, 0, 0, 0, 0, 0), (1042, 1, 3, 0, 0, 0, 0), (1043, 10, 0, 1, 0, 0, 0), (1044, 12, 13, 0, 0, 0, 0), (1045, 33, 15, 0, 0, 0, 0), (1046, 3, 0, 0, 0, 0, 0), (1047, 1, 3, 0, 0, 0, 0), (1048, 10, 0, 2, 0, 0, 0), (1049, 12, 13, 0, 0, 0, 0), (1050, 33, 15, 0, 0, 0, 0), (1051, 60, 27, 3, 5, 122, 1), (1054, 3, 2, 0, 0, 0, 0), (1055, 3, 0, 0, 0, 0, 0), (1056, 1, 3, 0, 0, 0, 0), (1057, 10, 0, 1, 0, 0, 0), (1058, 12, 13, 0, 0, 0, 0), (1059, 33, 15, 0, 0, 0, 0)]
def am_t119_18 : List (Nat × am_I) := [(1060, 3, 0, 0, 0, 0, 0), (1061, 1, 3, 0, 0, 0, 0), (1062, 10, 0, 2, 0, 0, 0), (1063, 12, 13, 0, 0, 0, 0), (1064, 33, 15, 0, 0, 0, 0), (1065, 60, 89, 3, 3, 125, 4), (1068, 26, 1129, 0, 0, 0, 0), (1071, 10, 0, 0, 0, 0, 0), (1072, 71, 0, 0, 0, 0, 0), (1073, 3, 1, 0, 0, 0, 0), (1074, 3, 0, 0, 0, 0, 0), (1075, 1, 3, 0, 0, 0, 0), (1076, 10, 0, 1, 0, 0, 0), (1077, 12, 13, 0, 0, 0, 0), (1078, 33, 15, 0, 0, 0, 0), (1079, 3, 0, 0, 0, 0, 0), (1080, 1, 3, 0, 0, 0, 0), (1081, 10, 0, 2, 0, 0, 0), (1082, 12, 13, 0, 0, 0, 0), (1083, 33, 15, 0, 0, 0, 0), (1084, 60, 28, 3, 3, 126, 1), (1087, 3, 2, 0, 0, 0, 0), (1088, 3, 0, 0, 0, 0, 0), (1089, 1, 3, 0, 0, 0, 0), (1090, 10, 0, 1, 0, 0, 0), (1091, 12, 13, 0, 0, 0, 0), (1092, 33, 15, 0, 0, 0, 0), (1093, 3, 0, 0, 0, 0, 0), (1094, 1, 3, 0, 0, 0, 0), (1095, 10, 0, 2, 0, 0, 0), (1096, 12, 13, 0, 0, 0, 0), (1097, 33, 15, 0, 0, 0, 0), (1098, 60, 90, 3, 5, 129, 4), (1101, 26, 1129, 0, 0, 0, 0), (1104, 10, 0, 0, 0, 0, 0), (1105, 71, 0, 0, 0, 0, 0), (1106, 3, 1, 0, 0, 0, 0), (1107, 3, 0, 0, 0, 0, 0), (1108, 1, 3, 0, 0, 0, 0), (1109, 10, 0, 1, 0, 0, 0)]
def am_t119_19 : List (Nat × am_I) := [(1110, 12, 13, 0, 0, 0, 0), (1111, 33, 15, 0, 0, 0, 0), (1112, 60, 29, 2, 2, 130, 1), (1115, 3, 2, 0, 0, 0, 0), (1116, 3, 0, 0, 0, 0, 0), (1117, 1, 3, 0, 0, 0, 0), (1118, 10, 0, 1, 0, 0, 0), (1119, 12, 13, 0, 0, 0, 0), (1120, 33, 15, 0, 0, 0, 0), (1121, 60, 91, 2, 4, 133, 4), (1124, 26, 1129, 0, 0, 0, 0), (1127, 10, 0, 0, 0, 0, 0), (1128, 71, 0, 0, 0, 0, 0), (1129, 9, 3, 4, 0, 0, 0), (1132, 24, 18, 0, 0, 0, 0), (1135, 10, 0, 1, 0, 0, 0), (1136, 71, 0, 0, 0, 0, 0)]
def am_t119 : List (Nat × am_I) := am_t119_0 ++ (am_t119_1 ++ (am_t119_2 ++ (am_t119_3 ++ (am_t119_4 ++ (am_t119_5 ++ (am_t119_6 ++ (am_t119_7 ++ (am_t119_8 ++ (am_t119_9 ++ (am_t119_10 ++ (am_t119_11 ++ (am_t119_12 ++ (am_t119_13 ++ (am_t119_14 ++ (am_t119_15 ++ (am_t119_16 ++ (am_t119_17 ++ (am_t119_18 ++ (am_t119_19)))))))))))))))))))
def am_tabs : List (List (Nat × am_I)) := [am_t0, am_t1, am_t2, am_t3, am_t4, am_t5, am_t6, am_t7, am_t8, am_t9, am_t10, am_t11, am_t12, am_t13, am_t14, am_t15, am_t16, am_t17, am_t18, am_t19, am_t20, am_t21, am_t22, am_t23, am_t24, am_t25, am_t26, am_t27, am_t28, am_t29, am_t30, am_t31, am_t32, am_t33, am_t34, am_t35, am_t36, am_t37, am_t38, am_t39, am_t40, am_t41, am_t42, am_t43, am_t44, am_t45, am_t46, am_t47, am_t48, am_t49, am_t50, am_t51, am_t52, am_t53, am_t54, am_t55, am_t56, am_t57, am_t58, am_t59, am_t60, am_t61, am_t62, am_t63, am_t64, am_t65, am_t66, am_t67, am_t68, am_t69, am_t70, am_t71, am_t72, am_t73, am_t74, am_t75, am_t76, am_t77, am_t78, am_t79, am_t80, am_t81, am_t82, am_t83, am_t84, am_t85, am_t86, am_t87, am_t88, am_t89, am_t90, am_t91, am_t92, am_t93, am_t94, am_t95, am_t96, am_t97, am_t98, am_t99, am_t100, am_t101, am_t102, am_t103, am_t104, am_t105, am_t106, am_t107, am_t108, am_t109, am_t110, am_t111, am_t112, am_t113, am_t114, am_t115, am_t116, am_t117, am_t118, am_t119]
def am_tab (y : Nat) : List (Nat × am_I) := am_tabs.getD y []
def am_fd : List (Nat × am_I) → Nat → Option am_I
  | [], _ => none
  | e :: t, pc => if e.1 = pc then some e.2 else am_fd t pc
def am_ins (y pc : Nat) : Option am_I := am_fd (am_tab y) pc
-- the words that every method's contract takes: the tables' good ones
def am_ws : List Jvm.Cond := lw_tbl.filter (fun w => k2_isCode w || goodWord w)
end TAB
end
section
-- THE SMALL MACHINE: what the class, the reference and the law do, over ints and typed references alone.
-- a value: an int; a reference of a kind (t, address or null); an unset local
section AM1
abbrev am_V : Type := Int32 ⊕ (Nat × Option Nat) ⊕ Unit
-- a memory: (cells made so far, slots made so far, the script's length), kind of each cell, its ints, its references
abbrev am_M : Type := (Nat × Nat × Nat) × (Nat → Nat) × (Nat → Nat → Int32) × (Nat → Nat → Option Nat)
abbrev am_i (x : Int32) : am_V := .inl x
abbrev am_r (t : Nat) (o : Option Nat) : am_V := .inr (.inl (t, o))
abbrev am_u : am_V := .inr (.inr ())
def am_sz (M : am_M) : Nat := M.1.1
def am_sl (M : am_M) : Nat := M.1.2.1
def am_L (M : am_M) : Nat := M.1.2.2
def am_tg (M : am_M) (a : Nat) : Nat := M.2.1 a
def am_mi (M : am_M) (a k : Nat) : Int32 := M.2.2.1 a k
def am_mr (M : am_M) (a k : Nat) : Option Nat := M.2.2.2 a k
def am_si (M : am_M) (a k : Nat) (x : Int32) : am_M := (M.1, M.2.1, (fun b j => if b = a ∧ j = k then x else M.2.2.1 b j), M.2.2.2)
def am_sr (M : am_M) (a k : Nat) (x : Option Nat) : am_M := (M.1, M.2.1, M.2.2.1, (fun b j => if b = a ∧ j = k then x else M.2.2.2 b j))
def am_al (M : am_M) (t n : Nat) : am_M := ((am_sz M + 1, am_sl M + n, am_L M), (fun b => if b = am_sz M then t else M.2.1 b), (fun b j => if b = am_sz M then 0 else M.2.2.1 b j), (fun b j => if b = am_sz M then none else M.2.2.2 b j))
-- an index within
def am_ok (j : Int32) (n : Nat) : Bool := decide (0 ≤ j.toInt) && decide (j.toInt < (n : Int))
-- a branch, by its condition
def am_br {α : Type} (k : Nat) (x y : Int32) (J F : α) : α := match k with
  | 0 => if x = y then J else F
  | 1 => if x = y then F else J
  | 2 => if x < y then J else F
  | 3 => if x < y then F else J
  | 4 => if y < x then J else F
  | _ => if y < x then F else J
def am_bin (op : Nat) (x y : Int32) : Option Int32 := match op with
  | 13 => some (x + y)
  | 14 => some (x - y)
  | 15 => some (x * y)
  | 16 => if y = 0 then none else some (x - x / y * y)
  | 17 => some (x &&& y)
  | 18 => some (x ^^^ y)
  | 19 => some (x <<< (y &&& 31))
  | 20 => some (x >>> (y &&& 31))
  | _ => none
abbrev am_S : Type := Nat × List am_V × List am_V × am_M
def am_f1 (x k pc : Nat) (lo st : List am_V) (M : am_M) : Option am_S := match lo[x]? with
  | some (.inl v) => some (pc + k, lo, .inl v :: st, M)
  | _ => none
def am_f3 (x k pc : Nat) (lo st : List am_V) (M : am_M) : Option am_S := match lo[x]? with
  | some (.inr (.inl q)) => some (pc + k, lo, .inr (.inl q) :: st, M)
  | _ => none
def am_f5 (x k pc : Nat) (lo st : List am_V) (M : am_M) : Option am_S := match st with
  | .inl v :: s => if x < lo.length then some (pc + k, lo.set x (.inl v), s, M) else none
  | _ => none
def am_f7 (x k pc : Nat) (lo st : List am_V) (M : am_M) : Option am_S := match st with
  | .inr (.inl q) :: s => if x < lo.length then some (pc + k, lo.set x (.inr (.inl q)), s, M) else none
  | _ => none
def am_f9 (x : Nat) (d : Int) (pc : Nat) (lo st : List am_V) (M : am_M) : Option am_S := match lo[x]? with
  | some (.inl v) => some (pc + 3, lo.set x (.inl (v + Int32.ofInt d)), st, M)
  | _ => none
def am_f13 (op pc : Nat) (lo st : List am_V) (M : am_M) : Option am_S := match st with
  | .inl y :: .inl x :: s => match am_bin op x y with
    | some v => some (pc + 1, lo, .inl v :: s, M)
    | none => none
  | _ => none
def am_f21 (pc : Nat) (lo st : List am_V) (M : am_M) : Option am_S := match st with
  | v :: s => some (pc + 1, lo, v :: v :: s, M)
  | _ => none
def am_f22 (pc : Nat) (lo st : List am_V) (M : am_M) : Option am_S := match st with
  | v :: w :: s => some (pc + 1, lo, v :: w :: v :: w :: s, M)
  | _ => none
def am_f25 (x k pc : Nat) (lo st : List am_V) (M : am_M) : Option am_S := match st with
  | .inl v :: s => am_br k v 0 (some (x, lo, s, M)) (some (pc + 3, lo, s, M))
  | _ => none
def am_f26 (x k pc : Nat) (lo st : List am_V) (M : am_M) : Option am_S := match st with
  | .inl w :: .inl v :: s => am_br k v w (some (x, lo, s, M)) (some (pc + 3, lo, s, M))
  | _ => none
def am_f27 (x pc : Nat) (lo st : List am_V) (M : am_M) : Option am_S := match st with
  | .inr (.inl q2) :: .inr (.inl q1) :: s => if q1.2 = q2.2 then some (x, lo, s, M) else some (pc + 3, lo, s, M)
  | _ => none
def am_f28 (x pc : Nat) (lo st : List am_V) (M : am_M) : Option am_S := match st with
  | .inr (.inl q2) :: .inr (.inl q1) :: s => if q1.2 = q2.2 then some (pc + 3, lo, s, M) else some (x, lo, s, M)
  | _ => none
def am_f29 (x pc : Nat) (lo st : List am_V) (M : am_M) : Option am_S := match st with
  | .inr (.inl q) :: s => if q.2 = none then some (x, lo, s, M) else some (pc + 3, lo, s, M)
  | _ => none
def am_f30 (x pc : Nat) (lo st : List am_V) (M : am_M) : Option am_S := match st with
  | .inr (.inl q) :: s => if q.2 = none then some (pc + 3, lo, s, M) else some (x, lo, s, M)
  | _ => none
def am_f32 (pc : Nat) (lo st : List am_V) (M : am_M) : Option am_S := match st with
  | .inr (.inl (t, some _)) :: s => if am_ak t = 0 then none else some (pc + 1, lo, .inl (nI (am_ln t (am_L M))) :: s, M)
  | _ => none
def am_f33 (pc : Nat) (lo st : List am_V) (M : am_M) : Option am_S := match st with
  | .inl j :: .inr (.inl (t, some a)) :: s => if (am_ak t = 1 ∨ am_ak t = 4) ∧ am_ok j (am_ln t (am_L M)) = true then some (pc + 1, lo, .inl (am_mi M a j.toNatClampNeg) :: s, M) else none
  | _ => none
def am_f34 (x pc : Nat) (lo st : List am_V) (M : am_M) : Option am_S := match st with
  | .inl v :: .inl j :: .inr (.inl (t, some a)) :: s => if t = x ∧ am_ak t = 1 ∧ am_ok j (am_ln t (am_L M)) = true then some (pc + 1, lo, s, am_si M a j.toNatClampNeg v) else none
  | _ => none
def am_f35 (pc : Nat) (lo st : List am_V) (M : am_M) : Option am_S := match st with
  | .inl j :: .inr (.inl (t, some a)) :: s => if am_ak t = 2 ∧ am_ok j (am_ln t (am_L M)) = true then some (pc + 1, lo, .inl (am_mi M a j.toNatClampNeg) :: s, M) else none
  | _ => none
def am_f36 (x pc : Nat) (lo st : List am_V) (M : am_M) : Option am_S := match st with
  | .inl v :: .inl j :: .inr (.inl (t, some a)) :: s => if (v = 0 ∨ v = 1) ∧ t = x ∧ am_ak t = 2 ∧ am_ok j (am_ln t (am_L M)) = true then some (pc + 1, lo, s, am_si M a j.toNatClampNeg v) else none
  | _ => none
def am_f37 (pc : Nat) (lo st : List am_V) (M : am_M) : Option am_S := match st with
  | .inl j :: .inr (.inl (t, some a)) :: s => if am_ak t = 3 ∧ am_ok j (am_ln t (am_L M)) = true then some (pc + 1, lo, .inr (.inl (am_fr t 0, am_mr M a j.toNatClampNeg)) :: s, M) else none
  | _ => none
def am_f38 (x pc : Nat) (lo st : List am_V) (M : am_M) : Option am_S := match st with
  | .inr (.inl (t2, o)) :: .inl j :: .inr (.inl (t, some a)) :: s => if t2 = am_fr t 0 ∧ t = x ∧ am_ak t = 3 ∧ am_ok j (am_ln t (am_L M)) = true then some (pc + 1, lo, s, am_sr M a j.toNatClampNeg o) else none
  | _ => none
def am_f39 (x pc : Nat) (lo st : List am_V) (M : am_M) : Option am_S := match st with
  | .inl n :: s => if n = nI (am_ln x 0) ∧ (am_ak x = 1 ∨ am_ak x = 2) then some (pc + 2, lo, .inr (.inl (x, some (am_sz M))) :: s, am_al M x (am_ln x 0)) else none
  | _ => none
def am_f40 (x pc : Nat) (lo st : List am_V) (M : am_M) : Option am_S := match st with
  | .inl n :: s => if n = nI (am_ln x 0) ∧ am_ak x = 3 then some (pc + 3, lo, .inr (.inl (x, some (am_sz M))) :: s, am_al M x (am_ln x 0)) else none
  | _ => none
def am_f41 (x k pc : Nat) (lo st : List am_V) (M : am_M) : Option am_S := match st with
  | .inr (.inl (t, some a)) :: s => if t = x then some (pc + 3, lo, .inl (am_mi M a k) :: s, M) else none
  | _ => none
def am_f42 (x k pc : Nat) (lo st : List am_V) (M : am_M) : Option am_S := match st with
  | .inr (.inl (t, some a)) :: s => if t = x then some (pc + 3, lo, .inr (.inl (am_fr x k, am_mr M a k)) :: s, M) else none
  | _ => none
def am_f43 (x k pc : Nat) (lo st : List am_V) (M : am_M) : Option am_S := match st with
  | .inl v :: .inr (.inl (t, some a)) :: s => if t = x then some (pc + 3, lo, s, am_si M a k v) else none
  | _ => none
def am_f44 (x k pc : Nat) (lo st : List am_V) (M : am_M) : Option am_S := match st with
  | .inl v :: .inr (.inl (t, some a)) :: s => if (v = 0 ∨ v = 1) ∧ t = x then some (pc + 3, lo, s, am_si M a k v) else none
  | _ => none
def am_f45 (x k pc : Nat) (lo st : List am_V) (M : am_M) : Option am_S := match st with
  | .inr (.inl (t2, o)) :: .inr (.inl (t, some a)) :: s => if t2 = am_fr x k ∧ t = x then some (pc + 3, lo, s, am_sr M a k o) else none
  | _ => none
def am_f49 (pc : Nat) (lo st : List am_V) (M : am_M) : Option am_S := match st with
  | .inr (.inl (_, some _)) :: s => if s.length ≤ 8 then some (pc + 3, lo, s, M) else none
  | _ => none
def am_f50 (x pc : Nat) (lo st : List am_V) (M : am_M) : Option am_S := match st with
  | .inl v :: s => some (am_swt x v, lo, s, M)
  | _ => none
def am_f51 (pc : Nat) (lo st : List am_V) (M : am_M) : Option am_S := match st with
  | .inl y :: .inl x :: s => if s.length ≤ 8 then some (pc + 3, lo, .inl (if y < x then y else x) :: s, M) else none
  | _ => none
-- one instruction that stays in the method: (op, x, y, z, index in the pool, kind)
def am_tl (i : am_I) (pc : Nat) (lo st : List am_V) (M : am_M) : Option am_S := match i with
  | (1, x, _, _, _, _) => am_f1 (x % 4) 1 pc lo st M
  | (2, x, _, _, _, _) => am_f1 x 2 pc lo st M
  | (3, x, _, _, _, _) => am_f3 (x % 4) 1 pc lo st M
  | (4, x, _, _, _, _) => am_f3 x 2 pc lo st M
  | (5, x, _, _, _, _) => am_f5 (x % 4) 1 pc lo st M
  | (6, x, _, _, _, _) => am_f5 x 2 pc lo st M
  | (7, x, _, _, _, _) => am_f7 (x % 4) 1 pc lo st M
  | (8, x, _, _, _, _) => am_f7 x 2 pc lo st M
  | (9, x, y, z, _, _) => am_f9 x ((y : Int) - (z : Int)) pc lo st M
  | (10, _, y, z, _, _) => some (pc + 1, lo, .inl (Int32.ofInt ((y : Int) - (z : Int))) :: st, M)
  | (11, _, y, z, _, _) => some (pc + 2, lo, .inl (Int8.ofInt ((y : Int) - (z : Int))).toInt32 :: st, M)
  | (12, op, _, _, _, _) => am_f13 op pc lo st M
  | (21, _, _, _, _, _) => am_f21 pc lo st M
  | (22, _, _, _, _, _) => am_f22 pc lo st M
  | (24, x, _, _, _, _) => some (x, lo, st, M)
  | (25, x, k, _, _, _) => am_f25 x k pc lo st M
  | (26, x, k, _, _, _) => am_f26 x k pc lo st M
  | (27, x, _, _, _, _) => am_f27 x pc lo st M
  | (28, x, _, _, _, _) => am_f28 x pc lo st M
  | (29, x, _, _, _, _) => am_f29 x pc lo st M
  | (30, x, _, _, _, _) => am_f30 x pc lo st M
  | (31, x, _, _, _, _) => some (pc + 1, lo, .inr (.inl (x, none)) :: st, M)
  | (32, _, _, _, _, _) => am_f32 pc lo st M
  | (33, _, _, _, _, _) => am_f33 pc lo st M
  | (34, x, _, _, _, _) => am_f34 x pc lo st M
  | (35, _, _, _, _, _) => am_f35 pc lo st M
  | (36, x, _, _, _, _) => am_f36 x pc lo st M
  | (37, _, _, _, _, _) => am_f37 pc lo st M
  | (38, x, _, _, _, _) => am_f38 x pc lo st M
  | (39, x, _, _, _, _) => am_f39 x pc lo st M
  | (40, x, _, _, _, _) => am_f40 x pc lo st M
  | (41, x, k, _, _, _) => am_f41 x k pc lo st M
  | (42, x, k, _, _, _) => am_f42 x k pc lo st M
  | (43, x, k, _, _, _) => am_f43 x k pc lo st M
  | (44, x, k, _, _, _) => am_f44 x k pc lo st M
  | (45, x, k, _, _, _) => am_f45 x k pc lo st M
  | (46, x, k, _, _, _) => am_f43 x k pc lo st M
  | (47, x, k, _, _, _) => am_f45 x k pc lo st M
  | (48, x, _, _, _, _) => some (pc + 3, lo, .inr (.inl (x, some (am_sz M))) :: st, am_al M x (am_nf x))
  | (49, _, _, _, _, _) => am_f49 pc lo st M
  | (50, x, _, _, _, _) => am_f50 x pc lo st M
  | (51, _, _, _, _, _) => am_f51 pc lo st M
  | _ => none
-- a call: (callee, its locals, what stays on the stack)
def am_cf (i : am_I) (st : List am_V) : Option (Nat × List am_V × List am_V) :=
  if i.2.2.1 ≤ st.length ∧ (st.drop i.2.2.1).length ≤ 8 then some (i.2.1, (st.take i.2.2.1).reverse ++ List.replicate (i.2.2.2.1 - i.2.2.1) am_u, st.drop i.2.2.1) else none
def am_ca (i : am_I) (st : List am_V) : Option (Nat × List am_V × List am_V) := match i.1 with
  | 61 => am_cf i st
  | _ => match (st.take i.2.2.1).reverse with
    | .inr (.inl (t, some _)) :: _ => if t = i.2.2.2.2.2 then am_cf i st else none
    | _ => none
-- an end
def am_rf (op : Nat) (st : List am_V) : Option (Option am_V) := match op, st with
  | 70, [.inl v] => some (some (.inl v))
  | 71, [.inl v] => if v = 0 ∨ v = 1 then some (some (.inl v)) else none
  | 72, [.inr (.inl q)] => some (some (.inr (.inl q)))
  | 73, [] => some none
  | _, _ => none
def am_run : Nat → Nat → Nat → List am_V → List am_V → am_M → Option (Option am_V × am_M)
  | 0, _, _, _, _, _ => none
  | n + 1, y, pc, lo, st, M => match am_ins y pc with
    | none => none
    | some i => if i.1 < 60 then (match am_tl i pc lo st M with
        | none => none
        | some q => am_run n y q.1 q.2.1 q.2.2.1 q.2.2.2)
      else if i.1 < 70 then (match am_ca i st with
        | none => none
        | some q => match am_run n q.1 0 q.2.1 [] M with
          | none => none
          | some r => am_run n y (pc + 3) lo (r.1.toList ++ q.2.2) r.2)
      else (match am_rf i.1 st with
        | none => none
        | some r => some (r, M))
def am_wp (y pc : Nat) (lo st : List am_V) (M : am_M) (Q : Option am_V → am_M → Prop) : Prop := ∃ (n : Nat) (r : Option am_V) (M' : am_M), am_run n y pc lo st M = some (r, M') ∧ Q r M'
theorem am_mono (n : Nat) : ∀ (y pc : Nat) (lo st : List am_V) (M : am_M) (q : Option am_V × am_M), am_run n y pc lo st M = some q → am_run (n + 1) y pc lo st M = some q := by
  induction n with
  | zero => intro y pc lo st M q h; simp [am_run] at h
  | succ n ih =>
    intro y pc lo st M q h
    rw [am_run] at h ⊢
    cases hi : am_ins y pc with
    | none => rw [hi] at h; cases h
    | some i =>
      rw [hi] at h
      dsimp only at h ⊢
      by_cases h1 : i.1 < 60
      · rw [if_pos h1] at h ⊢
        cases ht : am_tl i pc lo st M with
        | none => rw [ht] at h; cases h
        | some s => rw [ht] at h; dsimp only at h ⊢; exact ih _ _ _ _ _ _ h
      · rw [if_neg h1] at h ⊢
        by_cases h2 : i.1 < 70
        · rw [if_pos h2] at h ⊢
          cases hc : am_ca i st with
          | none => rw [hc] at h; cases h
          | some s =>
            rw [hc] at h
            dsimp only at h ⊢
            cases hr : am_run n s.1 0 s.2.1 [] M with
            | none => rw [hr] at h; cases h
            | some r =>
              rw [hr] at h
              rw [ih _ _ _ _ _ _ hr]
              dsimp only at h ⊢
              exact ih _ _ _ _ _ _ h
        · rw [if_neg h2] at h ⊢
          exact h
theorem am_mono2 {n m : Nat} (hnm : n ≤ m) {y pc : Nat} {lo st : List am_V} {M : am_M} {q : Option am_V × am_M} (h : am_run n y pc lo st M = some q) : am_run m y pc lo st M = some q := by
  induction m with
  | zero => have : n = 0 := by omega
            subst this; exact h
  | succ m ih =>
    by_cases hm : n = m + 1
    · subst hm; exact h
    · exact am_mono m _ _ _ _ _ _ (ih (by omega))
theorem am_wp_t {y pc : Nat} {lo st : List am_V} {M : am_M} {Q : Option am_V → am_M → Prop} {i : am_I} {pc' : Nat} {lo' st' : List am_V} {M' : am_M} (hi : am_ins y pc = some i) (h6 : i.1 < 60) (hs : am_tl i pc lo st M = some (pc', lo', st', M')) : am_wp y pc lo st M Q = am_wp y pc' lo' st' M' Q := by
  have h : ∀ n, am_run (n + 1) y pc lo st M = am_run n y pc' lo' st' M' := fun n => by
    rw [am_run, hi]
    dsimp only
    rw [if_pos h6, hs]
  apply propext
  constructor
  · intro ⟨n, r, M1, h1, h2⟩
    cases n with
    | zero => simp [am_run] at h1
    | succ n => exact ⟨n, r, M1, by rw [← h]; exact h1, h2⟩
  · intro ⟨n, r, M1, h1, h2⟩
    exact ⟨n + 1, r, M1, by rw [h]; exact h1, h2⟩
theorem am_wp_c {y pc : Nat} {lo st : List am_V} {M : am_M} {Q : Option am_V → am_M → Prop} {i : am_I} {y' : Nat} {lo1 st' : List am_V} (hi : am_ins y pc = some i) (h6 : ¬ i.1 < 60) (h7 : i.1 < 70) (hs : am_ca i st = some (y', lo1, st')) : am_wp y pc lo st M Q = am_wp y' 0 lo1 [] M (fun r M1 => am_wp y (pc + 3) lo (r.toList ++ st') M1 Q) := by
  have h : ∀ n, am_run (n + 1) y pc lo st M = (match am_run n y' 0 lo1 [] M with | none => none | some r => am_run n y (pc + 3) lo (r.1.toList ++ st') r.2) := fun n => by
    rw [am_run, hi]
    dsimp only
    rw [if_neg h6, if_pos h7, hs]
  apply propext
  constructor
  · intro ⟨n, r, M1, h1, h2⟩
    cases n with
    | zero => simp [am_run] at h1
    | succ n =>
      rw [h] at h1
      cases hr : am_run n y' 0 lo1 [] M with
      | none => rw [hr] at h1; cases h1
      | some q => rw [hr] at h1; exact ⟨n, q.1, q.2, hr, n, r, M1, h1, h2⟩
  · intro ⟨n1, r1, M1, h1, n2, r2, M2, h2, h3⟩
    refine ⟨n1 + n2 + 1, r2, M2, ?_, h3⟩
    rw [h, am_mono2 (Nat.le_add_right n1 n2) h1]
    exact am_mono2 (Nat.le_add_left n2 n1) h2
theorem am_wp_e {y pc : Nat} {lo st : List am_V} {M : am_M} {Q : Option am_V → am_M → Prop} {i : am_I} {r : Option am_V} (hi : am_ins y pc = some i) (h6 : ¬ i.1 < 60) (h7 : ¬ i.1 < 70) (hs : am_rf i.1 st = some r) : am_wp y pc lo st M Q = Q r M := by
  have h : ∀ n, am_run (n + 1) y pc lo st M = some (r, M) := fun n => by
    rw [am_run, hi]
    dsimp only
    rw [if_neg h6, if_neg h7, hs]
  apply propext
  constructor
  · intro ⟨n, r1, M1, h1, h2⟩
    cases n with
    | zero => simp [am_run] at h1
    | succ n => rw [h] at h1; cases h1; exact h2
  · intro h2
    exact ⟨1, r, M, h 0, h2⟩
theorem am_wp_if {y pc : Nat} {lo st : List am_V} {M : am_M} {Q : Option am_V → am_M → Prop} {x k z w e : Nat} {v : Int32} (hi : am_ins y pc = some (25, x, k, z, w, e)) : am_wp y pc lo (.inl v :: st) M Q = am_br k v 0 (am_wp y x lo st M Q) (am_wp y (pc + 3) lo st M Q) := by
  have hs : am_tl (25, x, k, z, w, e) pc lo (.inl v :: st) M = am_br k v 0 (some (x, lo, st, M)) (some (pc + 3, lo, st, M)) := rfl
  unfold am_br at hs ⊢
  split at hs <;> split at hs <;> rename_i hc <;> first | (rw [if_pos hc]; exact am_wp_t hi (Nat.le_of_ble_eq_true rfl) hs) | (rw [if_neg hc]; exact am_wp_t hi (Nat.le_of_ble_eq_true rfl) hs)
theorem am_wp_ic {y pc : Nat} {lo st : List am_V} {M : am_M} {Q : Option am_V → am_M → Prop} {x k z w e : Nat} {v1 v2 : Int32} (hi : am_ins y pc = some (26, x, k, z, w, e)) : am_wp y pc lo (.inl v2 :: .inl v1 :: st) M Q = am_br k v1 v2 (am_wp y x lo st M Q) (am_wp y (pc + 3) lo st M Q) := by
  have hs : am_tl (26, x, k, z, w, e) pc lo (.inl v2 :: .inl v1 :: st) M = am_br k v1 v2 (some (x, lo, st, M)) (some (pc + 3, lo, st, M)) := rfl
  unfold am_br at hs ⊢
  split at hs <;> split at hs <;> rename_i hc <;> first | (rw [if_pos hc]; exact am_wp_t hi (Nat.le_of_ble_eq_true rfl) hs) | (rw [if_neg hc]; exact am_wp_t hi (Nat.le_of_ble_eq_true rfl) hs)
theorem am_wp_mono {y pc : Nat} {lo st : List am_V} {M : am_M} {Q Q' : Option am_V → am_M → Prop} (h : am_wp y pc lo st M Q) (hq : ∀ r M', Q r M' → Q' r M') : am_wp y pc lo st M Q' := by
  obtain ⟨n, r, M', h1, h2⟩ := h
  exact ⟨n, r, M', h1, hq r M' h2⟩
end AM1
section AM2
variable {y pc : Nat} {lo st : List am_V} {M : am_M} {Q : Option am_V → am_M → Prop} {v w : Int32} {q q2 : Nat × Option Nat} {o : Option Nat} {a x t k1 w1 : Nat}
theorem am_wp_rem (hi : am_ins y pc = some (12, 16, 0, 0, 0, 0)) (h : w ≠ 0) : am_wp y pc lo (.inl w :: .inl v :: st) M Q = am_wp y (pc + 1) lo (.inl (v - v / w * w) :: st) M Q :=
  am_wp_t hi (Nat.le_of_ble_eq_true rfl) (by show am_f13 16 pc lo (.inl w :: .inl v :: st) M = _; simp [am_f13, am_bin, h])
theorem am_wp_ae (hi : am_ins y pc = some (27, x, 0, 0, 0, 0)) : am_wp y pc lo (.inr (.inl q2) :: .inr (.inl q) :: st) M Q = if q.2 = q2.2 then am_wp y x lo st M Q else am_wp y (pc + 3) lo st M Q := by
  by_cases h : q.2 = q2.2
  · rw [if_pos h]; exact am_wp_t hi (Nat.le_of_ble_eq_true rfl) (if_pos h)
  · rw [if_neg h]; exact am_wp_t hi (Nat.le_of_ble_eq_true rfl) (if_neg h)
theorem am_wp_an (hi : am_ins y pc = some (28, x, 0, 0, 0, 0)) : am_wp y pc lo (.inr (.inl q2) :: .inr (.inl q) :: st) M Q = if q.2 = q2.2 then am_wp y (pc + 3) lo st M Q else am_wp y x lo st M Q := by
  by_cases h : q.2 = q2.2
  · rw [if_pos h]; exact am_wp_t hi (Nat.le_of_ble_eq_true rfl) (if_pos h)
  · rw [if_neg h]; exact am_wp_t hi (Nat.le_of_ble_eq_true rfl) (if_neg h)
theorem am_wp_nu (hi : am_ins y pc = some (29, x, 0, 0, 0, 0)) : am_wp y pc lo (.inr (.inl q) :: st) M Q = if q.2 = none then am_wp y x lo st M Q else am_wp y (pc + 3) lo st M Q := by
  by_cases h : q.2 = none
  · rw [if_pos h]; exact am_wp_t hi (Nat.le_of_ble_eq_true rfl) (if_pos h)
  · rw [if_neg h]; exact am_wp_t hi (Nat.le_of_ble_eq_true rfl) (if_neg h)
theorem am_wp_nn (hi : am_ins y pc = some (30, x, 0, 0, 0, 0)) : am_wp y pc lo (.inr (.inl q) :: st) M Q = if q.2 = none then am_wp y (pc + 3) lo st M Q else am_wp y x lo st M Q := by
  by_cases h : q.2 = none
  · rw [if_pos h]; exact am_wp_t hi (Nat.le_of_ble_eq_true rfl) (if_pos h)
  · rw [if_neg h]; exact am_wp_t hi (Nat.le_of_ble_eq_true rfl) (if_neg h)
theorem am_wp_il (hi : am_ins y pc = some (33, x, 0, 0, 0, 0)) (ht : am_ak t = 1 ∨ am_ak t = 4) (h : am_ok v (am_ln t (am_L M)) = true) : am_wp y pc lo (.inl v :: .inr (.inl (t, some a)) :: st) M Q = am_wp y (pc + 1) lo (.inl (am_mi M a v.toNatClampNeg) :: st) M Q :=
  am_wp_t hi (Nat.le_of_ble_eq_true rfl) (if_pos ⟨ht, h⟩)
theorem am_wp_bl (hi : am_ins y pc = some (35, x, 0, 0, 0, 0)) (ht : am_ak t = 2) (h : am_ok v (am_ln t (am_L M)) = true) : am_wp y pc lo (.inl v :: .inr (.inl (t, some a)) :: st) M Q = am_wp y (pc + 1) lo (.inl (am_mi M a v.toNatClampNeg) :: st) M Q :=
  am_wp_t hi (Nat.le_of_ble_eq_true rfl) (if_pos ⟨ht, h⟩)
theorem am_wp_al (hi : am_ins y pc = some (37, x, 0, 0, 0, 0)) (ht : am_ak t = 3) (h : am_ok v (am_ln t (am_L M)) = true) : am_wp y pc lo (.inl v :: .inr (.inl (t, some a)) :: st) M Q = am_wp y (pc + 1) lo (.inr (.inl (am_fr t 0, am_mr M a v.toNatClampNeg)) :: st) M Q :=
  am_wp_t hi (Nat.le_of_ble_eq_true rfl) (if_pos ⟨ht, h⟩)
theorem am_wp_is (hi : am_ins y pc = some (34, x, 0, 0, 0, 0)) (ht : am_ak x = 1) (h : am_ok v (am_ln x (am_L M)) = true) : am_wp y pc lo (.inl w :: .inl v :: .inr (.inl (x, some a)) :: st) M Q = am_wp y (pc + 1) lo st (am_si M a v.toNatClampNeg w) Q :=
  am_wp_t hi (Nat.le_of_ble_eq_true rfl) (if_pos ⟨rfl, ht, h⟩)
theorem am_wp_bs (hi : am_ins y pc = some (36, x, 0, 0, 0, 0)) (ht : am_ak x = 2) (h : am_ok v (am_ln x (am_L M)) = true) (hw : w = 0 ∨ w = 1) : am_wp y pc lo (.inl w :: .inl v :: .inr (.inl (x, some a)) :: st) M Q = am_wp y (pc + 1) lo st (am_si M a v.toNatClampNeg w) Q :=
  am_wp_t hi (Nat.le_of_ble_eq_true rfl) (if_pos ⟨hw, rfl, ht, h⟩)
theorem am_wp_as (hi : am_ins y pc = some (38, x, 0, 0, 0, 0)) (ht : am_ak x = 3) (h : am_ok v (am_ln x (am_L M)) = true) : am_wp y pc lo (.inr (.inl (am_fr x 0, o)) :: .inl v :: .inr (.inl (x, some a)) :: st) M Q = am_wp y (pc + 1) lo st (am_sr M a v.toNatClampNeg o) Q :=
  am_wp_t hi (Nat.le_of_ble_eq_true rfl) (if_pos ⟨rfl, rfl, ht, h⟩)
theorem am_wp_pz (hi : am_ins y pc = some (44, x, k1, 0, w1, 0)) (h : v = 0 ∨ v = 1) : am_wp y pc lo (.inl v :: .inr (.inl (x, some a)) :: st) M Q = am_wp y (pc + 3) lo st (am_si M a k1 v) Q :=
  am_wp_t hi (Nat.le_of_ble_eq_true rfl) (if_pos ⟨h, rfl⟩)
end AM2
end
section
-- what the tables say of each instruction: its bytes, and the words that it needs
section CHK
def am_f4 (x : Nat) : Fin 4 := ⟨x % 4, Nat.mod_lt _ (by decide)⟩
def am_cd6 (k : Nat) : ClassFile.Cond := match k with
  | 0 => .eq
  | 1 => .ne
  | 2 => .lt
  | 3 => .ge
  | 4 => .gt
  | _ => .le
def am_op2 (op : Nat) : Instr := match op with
  | 13 => .iadd
  | 14 => .isub
  | 15 => .imul
  | 16 => .irem
  | 17 => .iand
  | 18 => .ixor
  | 19 => .ishl
  | _ => .ishr
def am_esw (x : Nat) : Instr × Nat := match am_sw x with
  | (true, _, d, l, h, os, _, len) => (.tableswitch d l h os.toArray, len)
  | (false, _, d, _, _, _, ps, len) => (.lookupswitch d ps.toArray, len)
def am_enc (i : am_I) (pc : Nat) : Instr × Nat := match i with
  | (1, x, _, _, _, _) => (.iload_n (am_f4 x), 1)
  | (2, x, _, _, _, _) => (.iload x, 2)
  | (3, x, _, _, _, _) => (.aload_n (am_f4 x), 1)
  | (4, x, _, _, _, _) => (.aload x, 2)
  | (5, x, _, _, _, _) => (.istore_n (am_f4 x), 1)
  | (6, x, _, _, _, _) => (.istore x, 2)
  | (7, x, _, _, _, _) => (.astore_n (am_f4 x), 1)
  | (8, x, _, _, _, _) => (.astore x, 2)
  | (9, x, y, z, _, _) => (.iinc x ((y : Int) - (z : Int)), 3)
  | (10, _, y, z, _, _) => (.iconst ((y : Int) - (z : Int)), 1)
  | (11, _, y, z, _, _) => (.bipush ((y : Int) - (z : Int)), 2)
  | (12, op, _, _, _, _) => (am_op2 op, 1)
  | (21, _, _, _, _, _) => (.dup, 1)
  | (22, _, _, _, _, _) => (.dup2, 1)
  | (24, x, _, _, _, _) => (.goto ((x : Int) - (pc : Int)), 3)
  | (25, x, k, _, _, _) => (.ifCond (am_cd6 k) ((x : Int) - (pc : Int)), 3)
  | (26, x, k, _, _, _) => (.if_icmp (am_cd6 k) ((x : Int) - (pc : Int)), 3)
  | (27, x, _, _, _, _) => (.if_acmp .eq ((x : Int) - (pc : Int)), 3)
  | (28, x, _, _, _, _) => (.if_acmp .ne ((x : Int) - (pc : Int)), 3)
  | (29, x, _, _, _, _) => (.ifnull ((x : Int) - (pc : Int)), 3)
  | (30, x, _, _, _, _) => (.ifnonnull ((x : Int) - (pc : Int)), 3)
  | (31, _, _, _, _, _) => (.aconst_null, 1)
  | (32, _, _, _, _, _) => (.arraylength, 1)
  | (33, _, _, _, _, _) => (.iaload, 1)
  | (34, _, _, _, _, _) => (.iastore, 1)
  | (35, _, _, _, _, _) => (.baload, 1)
  | (36, _, _, _, _, _) => (.bastore, 1)
  | (37, _, _, _, _, _) => (.aaload, 1)
  | (38, _, _, _, _, _) => (.aastore, 1)
  | (39, x, _, _, _, _) => (.newarray (am_at x), 2)
  | (40, _, _, _, w, _) => (.anewarray w, 3)
  | (41, _, _, _, w, _) => (.getfield w, 3)
  | (42, _, _, _, w, _) => (.getfield w, 3)
  | (43, _, _, _, w, _) => (.putfield w, 3)
  | (44, _, _, _, w, _) => (.putfield w, 3)
  | (45, _, _, _, w, _) => (.putfield w, 3)
  | (46, _, _, _, w, _) => (.putfield w, 3)
  | (47, _, _, _, w, _) => (.putfield w, 3)
  | (48, _, _, _, w, _) => (.new w, 3)
  | (49, _, _, _, w, _) => (.invokespecial w, 3)
  | (50, x, _, _, _, _) => am_esw x
  | (51, _, _, _, w, _) => (.invokestatic w, 3)
  | (60, _, _, _, w, _) => (.invokevirtual w, 3)
  | (61, _, _, _, w, _) => (.invokestatic w, 3)
  | (62, _, _, _, w, _) => (.invokespecial w, 3)
  | (63, _, _, _, w, _) => (.invokespecial w, 3)
  | (70, _, _, _, _, _) => (.ireturn, 1)
  | (71, _, _, _, _, _) => (.ireturn, 1)
  | (72, _, _, _, _, _) => (.areturn, 1)
  | _ => (.return_, 1)
def am_lkf (y x k w : Nat) : Bool := match am_cl[am_ci x]? with
  | some r => decide (k < r.2.2) && decide (Jvm.Cond.fieldLink (am_nm y).cls w (r.2.1 k).1 (r.2.1 k).2.1 (r.2.1 k).2.2.1 ∈ am_ws) && decide (am_ak x = 0)
  | none => false
def am_lkc (y x k z w n : Nat) : Bool := decide (plainFor (am_nm x) = true) && decide (am_mx x = z) && decide (k ≤ z) && decide (am_lv x + 1 ≤ am_lv y) && decide (z ≤ 20) && decide (x < am_N) && decide (Jvm.Cond.methodLink (am_nm y).cls w (am_nm x) ∈ am_ws) && decide (Jvm.Cond.initialized (am_nm x).cls ∈ am_ws) && decide ((am_nm x).cls ≠ "java/lang/invoke/MethodHandle") && decide ((am_nm x).cls ≠ "java/lang/invoke/VarHandle") && decide ((parseMethodDescriptor (am_nm x).desc).map (fun d => d.parameters.length) = some n)
def am_lkd (y x k z n : Nat) : Bool := decide (plainFor (am_nm x) = true) && decide (am_mx x = z) && decide (k ≤ z) && decide (am_lv x + 1 ≤ am_lv y) && decide (z ≤ 20) && decide (x < am_N) && decide (Jvm.Cond.initialized (am_nm x).cls ∈ am_ws) && decide ((am_nm x).cls ≠ "java/lang/invoke/MethodHandle") && decide ((am_nm x).cls ≠ "java/lang/invoke/VarHandle") && decide ((parseMethodDescriptor (am_nm x).desc).map (fun d => d.parameters.length) = some n)
def am_finb (x k : Nat) : Bool := match am_cl[am_ci x]? with
  | some r => (r.2.1 k).2.2.2
  | none => true
def am_finc (y x k : Nat) : Bool := match am_cl[am_ci x]? with
  | some r => (r.2.1 k).2.2.2 && decide ((r.2.1 k).1 = (am_nm y).cls)
  | none => false
def am_dfb (x : Nat) : Bool := (List.range (am_nf x)).all (fun k => decide (defaultValue (am_tf (am_ci x) k) = if am_ft x k = 2 then .null else .int 0))
def am_lsw (x pc : Nat) : Bool := match am_sw x with
  | (true, p, d, l, h, os, _, _) => decide (p = pc) && decide (h - l < (os.length : Int)) && (d :: os).all (fun o => decide (0 ≤ (pc : Int) + o))
  | (false, p, d, _, _, _, ps, _) => decide (p = pc) && (ps.zip (ps.drop 1)).all (fun (a, next) => a.1 < next.1) && (d :: ps.map (·.2)).all (fun o => decide (0 ≤ (pc : Int) + o))
def am_lk (y pc : Nat) (i : am_I) : Bool := match i with
  | (39, x, _, _, _, _) => decide (newarray.typeOf (am_at x) = am_ty x) && decide (Jvm.Cond.arrayClass (newarray.typeOf (am_at x)) ∈ am_ws) && decide (x ≠ 0) && decide (am_ln x 0 ≤ 1000)
  | (40, x, _, _, w, _) => match am_ty x with
    | .object C0 => decide (Jvm.Cond.classLink (am_nm y).cls w C0 ∈ am_ws) && decide (C0 = am_C1) && decide (x ≠ 0) && decide (am_ln x 0 ≤ 1000)
    | _ => false
  | (41, x, k, _, w, _) => am_lkf y x k w && decide (am_ft x k ≠ 2)
  | (42, x, k, _, w, _) => am_lkf y x k w && decide (am_ft x k = 2)
  | (43, x, k, _, w, _) => am_lkf y x k w && decide (am_ft x k = 0) && decide (am_finb x k = false)
  | (44, x, k, _, w, _) => am_lkf y x k w && decide (am_ft x k = 1) && decide (am_finb x k = false)
  | (45, x, k, _, w, _) => am_lkf y x k w && decide (am_ft x k = 2) && am_isr (am_tf (am_ci x) k) && decide (am_finb x k = false)
  | (46, x, k, _, w, _) => am_lkf y x k w && decide ((am_nm y).name = "<init>") && decide (am_ft x k = 0) && am_finc y x k
  | (47, x, k, _, w, _) => am_lkf y x k w && decide ((am_nm y).name = "<init>") && decide (am_ft x k = 2) && am_isr (am_tf (am_ci x) k) && am_finc y x k
  | (48, x, _, _, w, _) => match am_cl[am_ci x]? with
    | some r => decide (r.2.2 = am_nf x) && decide (Jvm.Cond.classLink (am_nm y).cls w r.1 ∈ am_ws) && decide (Jvm.Cond.instantiable r.1 r.2.2 ∈ am_ws) && decide (Jvm.Cond.initialized r.1 ∈ am_ws) && decide (x ≠ 0) && decide (am_ak x = 0) && am_dfb x
    | none => false
  | (49, _, _, _, w, _) => decide (Jvm.Cond.methodLink (am_nm y).cls w Lib.objectInit ∈ am_ws) && decide (Jvm.Cond.instanceMethod Lib.objectInit ∈ am_ws)
  | (50, x, _, _, _, _) => am_lsw x pc
  | (51, _, _, _, w, _) => decide (Jvm.Cond.methodLink (am_nm y).cls w Lib.Math.min.name ∈ am_ws) && decide (Jvm.Cond.static Lib.Math.min.name ∈ am_ws) && decide (Jvm.Cond.initialized "java/lang/Math" ∈ am_ws)
  | (60, x, k, z, w, v) => match am_cl[am_ci v]? with
    | some C0 => am_lkc y x k z w (k - 1) && decide (Jvm.Cond.instanceMethod (am_nm x) ∈ am_ws) && decide (Jvm.Cond.selects (am_nm x).cls (am_nm x) (am_nm x) ∈ am_ws) && decide (C0.1 = (am_nm x).cls) && decide (am_ak v = 0)
    | none => false
  | (61, x, k, z, w, _) => am_lkc y x k z w k && decide (Jvm.Cond.static (am_nm x) ∈ am_ws)
  | (62, x, k, z, w, _) => am_lkc y x k z w (k - 1) && decide (Jvm.Cond.instanceMethod (am_nm x) ∈ am_ws) && decide ((am_nm x).name = "<init>") && decide (am_rt x = none)
  | (63, x, k, z, w, _) => am_lkd y x k z (k - 1) && decide (((am_nm y).cls, w, am_nm x, am_host) ∈ am_nw) && decide (Jvm.Cond.instanceMethod (am_nm x) ∈ am_ws) && decide ((am_nm x).name = "<init>") && decide (am_rt x = none)
  | (70, _, _, _, _, _) => decide (am_rt y = some .int)
  | (71, _, _, _, _, _) => decide (am_rt y = some .boolean)
  | (72, _, _, _, _, _) => match am_rt y with
    | some (.object _) => true
    | _ => false
  | (73, _, _, _, _, _) => decide (am_rt y = none)
  | (op, _, _, _, _, _) => decide (op < 52)
def am_gd (y : Nat) (e : Nat × am_I) : Bool := decide (decode (am_cd y) e.1 = .ok (am_enc e.2 e.1)) && am_lk y e.1 e.2
theorem am_fd_mem {t : List (Nat × am_I)} {pc : Nat} {i : am_I} (h : am_fd t pc = some i) : (pc, i) ∈ t := by
  induction t with
  | nil => cases h
  | cons e t ih =>
    unfold am_fd at h
    split at h
    · rename_i h0
      cases h
      rw [← h0]
      exact List.mem_cons_self
    · exact List.mem_cons_of_mem _ (ih h)
theorem am_gd_of {y : Nat} (h : (am_tab y).all (am_gd y) = true) {pc : Nat} {i : am_I} (hi : am_ins y pc = some i) : decode (am_cd y) pc = .ok (am_enc i pc) ∧ am_lk y pc i = true := by
  have h1 := List.all_eq_true.mp h _ (am_fd_mem hi)
  simp only [am_gd, Bool.and_eq_true, decide_eq_true_eq] at h1
  exact h1
-- the kinds
theorem am_ln4 {t L : Nat} (h : am_ak t = 4) : am_ln t L = L := by
  unfold am_ak at h
  split at h <;> first | rfl | cases h
theorem am_lnL {t L : Nat} (h : am_ak t ≠ 4) : am_ln t L = am_ln t 0 := by
  unfold am_ak at h
  split at h <;> first | rfl | (exfalso; exact h rfl) | (unfold am_ln; split <;> first | rfl | (exfalso; simp_all; done))
theorem am_ty1 {t : Nat} (h : am_ak t = 1) : am_ty t = .int := by
  unfold am_ak at h
  split at h <;> first | rfl | cases h
theorem am_ty2 {t : Nat} (h : am_ak t = 2) : am_ty t = .boolean := by
  unfold am_ak at h
  split at h <;> first | rfl | cases h
theorem am_ty3 {t : Nat} (h : am_ak t = 3) : ∃ C0, am_ty t = .object C0 := by
  unfold am_ak at h
  split at h <;> first | exact ⟨_, rfl⟩ | cases h
theorem am_fr3 {t : Nat} (h : am_ak t = 3) (k : Nat) : am_fr t k = am_fr t 0 := by
  unfold am_ak at h
  split at h <;> first | rfl | cases h
theorem am_fr3o {t : Nat} (h : am_ak t = 3) : am_ak (am_fr t 0) = 0 ∧ ∀ r, am_cl[am_ci (am_fr t 0)]? = some r → am_ty t = .object r.1 := by
  unfold am_ak at h
  split at h <;> first | (exact ⟨rfl, fun r hr => by cases hr; rfl⟩) | cases h
theorem am_tf0 {x k : Nat} (h : am_ft x k = 0) : am_tf (am_ci x) k = .int := by
  unfold am_ft at h
  split at h <;> first | assumption | cases h
theorem am_tf1 {x k : Nat} (h : am_ft x k = 1) : am_tf (am_ci x) k = .boolean := by
  unfold am_ft at h
  split at h <;> first | assumption | cases h
theorem am_tf2 {ty : FieldType} (h : am_isr ty = true) (o : Option Nat) : narrow ty (va_rf o) = va_rf o ∧ fits ty (va_rf o) = true := by
  unfold am_isr at h
  split at h
  · cases o <;> exact ⟨rfl, rfl⟩
  · cases o <;> exact ⟨rfl, rfl⟩
  · cases h
theorem am_fin0 {x k : Nat} {r : vw_C} (hr : am_cl[am_ci x]? = some r) (h : am_finb x k = false) : (r.2.1 k).2.2.2 = false := by
  unfold am_finb at h
  rw [hr] at h
  exact h
theorem am_fin1 {y x k : Nat} {r : vw_C} (hr : am_cl[am_ci x]? = some r) (h : am_finc y x k = true) : (r.2.1 k).2.2.2 = true ∧ (r.2.1 k).1 = (am_nm y).cls := by
  unfold am_finc at h
  rw [hr] at h
  simp only [Bool.and_eq_true, decide_eq_true_eq] at h
  exact h
theorem am_nf_df {x : Nat} (h : am_dfb x = true) : ∀ k, k < am_nf x → defaultValue (am_tf (am_ci x) k) = if am_ft x k = 2 then .null else .int 0 := fun k hk => by
  have h1 := List.all_eq_true.mp h k (List.mem_range.mpr hk)
  simpa using h1
theorem am_ws_good (w : Jvm.Cond) (h : w ∈ am_ws) : (w.onTables && w.keeps) = true ∨ ∃ ty, w = .arrayClass ty := by
  have h1 := (List.mem_filter.mp h).2
  rw [Bool.or_eq_true] at h1
  rcases h1 with h1 | h1
  · cases w <;> first | (simp [k2_isCode] at h1; done) | exact Or.inl rfl
  · exact good_of_word h1
theorem am_ws_code {w : Jvm.Cond} (h : w ∈ lw_tbl) (hc : k2_isCode w = true) : w ∈ am_ws := List.mem_filter.mpr ⟨h, by rw [hc]; rfl⟩
end CHK
end
section
-- the tables hold: each instruction is what the bytes say, each word that it needs is there
section CHK2
set_option maxRecDepth 100000 in
set_option maxHeartbeats 4000000 in
theorem am_k0 : (am_tab 0).all (am_gd 0) = true := by decide +kernel
set_option maxRecDepth 100000 in
set_option maxHeartbeats 4000000 in
theorem am_k1 : (am_tab 1).all (am_gd 1) = true := by decide +kernel
set_option maxRecDepth 100000 in
set_option maxHeartbeats 4000000 in
theorem am_k2 : (am_tab 2).all (am_gd 2) = true := by decide +kernel
set_option maxRecDepth 100000 in
set_option maxHeartbeats 4000000 in
theorem am_k3 : (am_tab 3).all (am_gd 3) = true := by decide +kernel
set_option maxRecDepth 100000 in
set_option maxHeartbeats 4000000 in
theorem am_k4 : (am_tab 4).all (am_gd 4) = true := by decide +kernel
set_option maxRecDepth 100000 in
set_option maxHeartbeats 4000000 in
theorem am_k5 : (am_tab 5).all (am_gd 5) = true := by decide +kernel
set_option maxRecDepth 100000 in
set_option maxHeartbeats 4000000 in
theorem am_k6 : (am_tab 6).all (am_gd 6) = true := by decide +kernel
set_option maxRecDepth 100000 in
set_option maxHeartbeats 4000000 in
theorem am_k7 : (am_tab 7).all (am_gd 7) = true := by decide +kernel
set_option maxRecDepth 100000 in
set_option maxHeartbeats 4000000 in
theorem am_k8 : (am_tab 8).all (am_gd 8) = true := by decide +kernel
set_option maxRecDepth 100000 in
set_option maxHeartbeats 4000000 in
theorem am_k9 : (am_tab 9).all (am_gd 9) = true := by decide +kernel
set_option maxRecDepth 100000 in
set_option maxHeartbeats 4000000 in
theorem am_k10 : (am_tab 10).all (am_gd 10) = true := by decide +kernel
set_option maxRecDepth 100000 in
set_option maxHeartbeats 4000000 in
theorem am_k11 : (am_tab 11).all (am_gd 11) = true := by decide +kernel
set_option maxRecDepth 100000 in
set_option maxHeartbeats 4000000 in
theorem am_k12 : (am_tab 12).all (am_gd 12) = true := by decide +kernel
set_option maxRecDepth 100000 in
set_option maxHeartbeats 4000000 in
theorem am_k13 : (am_tab 13).all (am_gd 13) = true := by decide +kernel
set_option maxRecDepth 100000 in
set_option maxHeartbeats 4000000 in
theorem am_k14 : (am_tab 14).all (am_gd 14) = true := by decide +kernel
set_option maxRecDepth 100000 in
set_option maxHeartbeats 4000000 in
theorem am_k15 : (am_tab 15).all (am_gd 15) = true := by decide +kernel
set_option maxRecDepth 100000 in
set_option maxHeartbeats 4000000 in
theorem am_k16 : (am_tab 16).all (am_gd 16) = true := by decide +kernel
set_option maxRecDepth 100000 in
set_option maxHeartbeats 4000000 in
theorem am_k17 : (am_tab 17).all (am_gd 17) = true := by decide +kernel
set_option maxRecDepth 100000 in
set_option maxHeartbeats 4000000 in
theorem am_k18 : (am_tab 18).all (am_gd 18) = true := by decide +kernel
set_option maxRecDepth 100000 in
set_option maxHeartbeats 4000000 in
theorem am_k19 : (am_tab 19).all (am_gd 19) = true := by decide +kernel
set_option maxRecDepth 100000 in
set_option maxHeartbeats 4000000 in
theorem am_k20 : (am_tab 20).all (am_gd 20) = true := by decide +kernel
set_option maxRecDepth 100000 in
set_option maxHeartbeats 4000000 in
theorem am_k21 : (am_tab 21).all (am_gd 21) = true := by decide +kernel
set_option maxRecDepth 100000 in
set_option maxHeartbeats 4000000 in
theorem am_k22 : (am_tab 22).all (am_gd 22) = true := by decide +kernel
set_option maxRecDepth 100000 in
set_option maxHeartbeats 4000000 in
theorem am_k23 : (am_tab 23).all (am_gd 23) = true := by decide +kernel
set_option maxRecDepth 100000 in
set_option maxHeartbeats 4000000 in
theorem am_k24 : (am_tab 24).all (am_gd 24) = true := by decide +kernel
set_option maxRecDepth 100000 in
set_option maxHeartbeats 4000000 in
theorem am_k25 : (am_tab 25).all (am_gd 25) = true := by decide +kernel
set_option maxRecDepth 100000 in
set_option maxHeartbeats 4000000 in
theorem am_k26 : (am_tab 26).all (am_gd 26) = true := by decide +kernel
set_option maxRecDepth 100000 in
set_option maxHeartbeats 4000000 in
theorem am_k27 : (am_tab 27).all (am_gd 27) = true := by decide +kernel
set_option maxRecDepth 100000 in
set_option maxHeartbeats 4000000 in
theorem am_k28 : (am_tab 28).all (am_gd 28) = true := by decide +kernel
set_option maxRecDepth 100000 in
set_option maxHeartbeats 4000000 in
theorem am_k29 : (am_tab 29).all (am_gd 29) = true := by decide +kernel
set_option maxRecDepth 100000 in
set_option maxHeartbeats 4000000 in
theorem am_k30 : (am_tab 30).all (am_gd 30) = true := by decide +kernel
set_option maxRecDepth 100000 in
set_option maxHeartbeats 4000000 in
theorem am_k31 : (am_tab 31).all (am_gd 31) = true := by decide +kernel
set_option maxRecDepth 100000 in
set_option maxHeartbeats 4000000 in
theorem am_k32 : (am_tab 32).all (am_gd 32) = true := by decide +kernel
set_option maxRecDepth 100000 in
set_option maxHeartbeats 4000000 in
theorem am_k33 : (am_tab 33).all (am_gd 33) = true := by decide +kernel
set_option maxRecDepth 100000 in
set_option maxHeartbeats 4000000 in
theorem am_k34 : (am_tab 34).all (am_gd 34) = true := by decide +kernel
set_option maxRecDepth 100000 in
set_option maxHeartbeats 4000000 in
theorem am_k35 : (am_tab 35).all (am_gd 35) = true := by decide +kernel
set_option maxRecDepth 100000 in
set_option maxHeartbeats 4000000 in
theorem am_k36 : (am_tab 36).all (am_gd 36) = true := by decide +kernel
set_option maxRecDepth 100000 in
set_option maxHeartbeats 4000000 in
theorem am_k37 : (am_tab 37).all (am_gd 37) = true := by decide +kernel
set_option maxRecDepth 100000 in
set_option maxHeartbeats 4000000 in
theorem am_k38 : (am_tab 38).all (am_gd 38) = true := by decide +kernel
set_option maxRecDepth 100000 in
set_option maxHeartbeats 4000000 in
theorem am_k39 : (am_tab 39).all (am_gd 39) = true := by decide +kernel
set_option maxRecDepth 100000 in
set_option maxHeartbeats 4000000 in
theorem am_k40 : (am_tab 40).all (am_gd 40) = true := by decide +kernel
set_option maxRecDepth 100000 in
set_option maxHeartbeats 4000000 in
theorem am_k41 : (am_tab 41).all (am_gd 41) = true := by decide +kernel
set_option maxRecDepth 100000 in
set_option maxHeartbeats 4000000 in
theorem am_k42 : (am_tab 42).all (am_gd 42) = true := by decide +kernel
set_option maxRecDepth 100000 in
set_option maxHeartbeats 4000000 in
theorem am_k43 : (am_tab 43).all (am_gd 43) = true := by decide +kernel
set_option maxRecDepth 100000 in
set_option maxHeartbeats 4000000 in
theorem am_k44 : (am_tab 44).all (am_gd 44) = true := by decide +kernel
set_option maxRecDepth 100000 in
set_option maxHeartbeats 4000000 in
theorem am_k45 : (am_tab 45).all (am_gd 45) = true := by decide +kernel
set_option maxRecDepth 100000 in
set_option maxHeartbeats 4000000 in
theorem am_k46 : (am_tab 46).all (am_gd 46) = true := by decide +kernel
set_option maxRecDepth 100000 in
set_option maxHeartbeats 4000000 in
theorem am_k47 : (am_tab 47).all (am_gd 47) = true := by decide +kernel
set_option maxRecDepth 100000 in
set_option maxHeartbeats 4000000 in
theorem am_k48 : (am_tab 48).all (am_gd 48) = true := by decide +kernel
set_option maxRecDepth 100000 in
set_option maxHeartbeats 4000000 in
theorem am_k49 : (am_tab 49).all (am_gd 49) = true := by decide +kernel
set_option maxRecDepth 100000 in
set_option maxHeartbeats 4000000 in
theorem am_k50 : (am_tab 50).all (am_gd 50) = true := by decide +kernel
set_option maxRecDepth 100000 in
set_option maxHeartbeats 4000000 in
theorem am_k51 : (am_tab 51).all (am_gd 51) = true := by decide +kernel
set_option maxRecDepth 100000 in
set_option maxHeartbeats 4000000 in
theorem am_k52 : (am_tab 52).all (am_gd 52) = true := by decide +kernel
set_option maxRecDepth 100000 in
set_option maxHeartbeats 4000000 in
theorem am_k53 : (am_tab 53).all (am_gd 53) = true := by decide +kernel
set_option maxRecDepth 100000 in
set_option maxHeartbeats 4000000 in
theorem am_k54 : (am_tab 54).all (am_gd 54) = true := by decide +kernel
set_option maxRecDepth 100000 in
set_option maxHeartbeats 4000000 in
theorem am_k55 : (am_tab 55).all (am_gd 55) = true := by decide +kernel
set_option maxRecDepth 100000 in
set_option maxHeartbeats 4000000 in
theorem am_k56 : (am_tab 56).all (am_gd 56) = true := by decide +kernel
set_option maxRecDepth 100000 in
set_option maxHeartbeats 4000000 in
theorem am_k57_0 : am_t57_0.all (am_gd 57) = true := by decide +kernel
set_option maxRecDepth 100000 in
set_option maxHeartbeats 4000000 in
theorem am_k57_1 : am_t57_1.all (am_gd 57) = true := by decide +kernel
set_option maxRecDepth 100000 in
set_option maxHeartbeats 4000000 in
theorem am_k57_2 : am_t57_2.all (am_gd 57) = true := by decide +kernel
set_option maxRecDepth 100000 in
set_option maxHeartbeats 4000000 in
theorem am_k57_3 : am_t57_3.all (am_gd 57) = true := by decide +kernel
set_option maxRecDepth 100000 in
set_option maxHeartbeats 4000000 in
theorem am_k57_4 : am_t57_4.all (am_gd 57) = true := by decide +kernel
theorem am_k57 : (am_tab 57).all (am_gd 57) = true := by
  show (am_t57_0 ++ (am_t57_1 ++ (am_t57_2 ++ (am_t57_3 ++ (am_t57_4))))).all (am_gd 57) = true
  simp only [List.all_append, am_k57_0, am_k57_1, am_k57_2, am_k57_3, am_k57_4, Bool.and_self]
set_option maxRecDepth 100000 in
set_option maxHeartbeats 4000000 in
theorem am_k58 : (am_tab 58).all (am_gd 58) = true := by decide +kernel
set_option maxRecDepth 100000 in
set_option maxHeartbeats 4000000 in
theorem am_k59 : (am_tab 59).all (am_gd 59) = true := by decide +kernel
set_option maxRecDepth 100000 in
set_option maxHeartbeats 4000000 in
theorem am_k60 : (am_tab 60).all (am_gd 60) = true := by decide +kernel
set_option maxRecDepth 100000 in
set_option maxHeartbeats 4000000 in
theorem am_k61 : (am_tab 61).all (am_gd 61) = true := by decide +kernel
set_option maxRecDepth 100000 in
set_option maxHeartbeats 4000000 in
theorem am_k62 : (am_tab 62).all (am_gd 62) = true := by decide +kernel
set_option maxRecDepth 100000 in
set_option maxHeartbeats 4000000 in
theorem am_k63 : (am_tab 63).all (am_gd 63) = true := by decide +kernel
set_option maxRecDepth 100000 in
set_option maxHeartbeats 4000000 in
theorem am_k64 : (am_tab 64).all (am_gd 64) = true := by decide +kernel
set_option maxRecDepth 100000 in
set_option maxHeartbeats 4000000 in
theorem am_k65 : (am_tab 65).all (am_gd 65) = true := by decide +kernel
set_option maxRecDepth 100000 in
set_option maxHeartbeats 4000000 in
theorem am_k66 : (am_tab 66).all (am_gd 66) = true := by decide +kernel
set_option maxRecDepth 100000 in
set_option maxHeartbeats 4000000 in
theorem am_k67 : (am_tab 67).all (am_gd 67) = true := by decide +kernel
set_option maxRecDepth 100000 in
set_option maxHeartbeats 4000000 in
theorem am_k68 : (am_tab 68).all (am_gd 68) = true := by decide +kernel
set_option maxRecDepth 100000 in
set_option maxHeartbeats 4000000 in
theorem am_k69 : (am_tab 69).all (am_gd 69) = true := by decide +kernel
set_option maxRecDepth 100000 in
set_option maxHeartbeats 4000000 in
theorem am_k70 : (am_tab 70).all (am_gd 70) = true := by decide +kernel
set_option maxRecDepth 100000 in
set_option maxHeartbeats 4000000 in
theorem am_k71 : (am_tab 71).all (am_gd 71) = true := by decide +kernel
set_option maxRecDepth 100000 in
set_option maxHeartbeats 4000000 in
theorem am_k72 : (am_tab 72).all (am_gd 72) = true := by decide +kernel
set_option maxRecDepth 100000 in
set_option maxHeartbeats 4000000 in
theorem am_k73 : (am_tab 73).all (am_gd 73) = true := by decide +kernel
set_option maxRecDepth 100000 in
set_option maxHeartbeats 4000000 in
theorem am_k74 : (am_tab 74).all (am_gd 74) = true := by decide +kernel
set_option maxRecDepth 100000 in
set_option maxHeartbeats 4000000 in
theorem am_k75 : (am_tab 75).all (am_gd 75) = true := by decide +kernel
set_option maxRecDepth 100000 in
set_option maxHeartbeats 4000000 in
theorem am_k76 : (am_tab 76).all (am_gd 76) = true := by decide +kernel
set_option maxRecDepth 100000 in
set_option maxHeartbeats 4000000 in
theorem am_k77 : (am_tab 77).all (am_gd 77) = true := by decide +kernel
set_option maxRecDepth 100000 in
set_option maxHeartbeats 4000000 in
theorem am_k78 : (am_tab 78).all (am_gd 78) = true := by decide +kernel
set_option maxRecDepth 100000 in
set_option maxHeartbeats 4000000 in
theorem am_k79 : (am_tab 79).all (am_gd 79) = true := by decide +kernel
set_option maxRecDepth 100000 in
set_option maxHeartbeats 4000000 in
theorem am_k80 : (am_tab 80).all (am_gd 80) = true := by decide +kernel
set_option maxRecDepth 100000 in
set_option maxHeartbeats 4000000 in
theorem am_k81 : (am_tab 81).all (am_gd 81) = true := by decide +kernel
set_option maxRecDepth 100000 in
set_option maxHeartbeats 4000000 in
theorem am_k82 : (am_tab 82).all (am_gd 82) = true := by decide +kernel
set_option maxRecDepth 100000 in
set_option maxHeartbeats 4000000 in
theorem am_k83 : (am_tab 83).all (am_gd 83) = true := by decide +kernel
set_option maxRecDepth 100000 in
set_option maxHeartbeats 4000000 in
theorem am_k84 : (am_tab 84).all (am_gd 84) = true := by decide +kernel
set_option maxRecDepth 100000 in
set_option maxHeartbeats 4000000 in
theorem am_k85 : (am_tab 85).all (am_gd 85) = true := by decide +kernel
set_option maxRecDepth 100000 in
set_option maxHeartbeats 4000000 in
theorem am_k86 : (am_tab 86).all (am_gd 86) = true := by decide +kernel
set_option maxRecDepth 100000 in
set_option maxHeartbeats 4000000 in
theorem am_k87 : (am_tab 87).all (am_gd 87) = true := by decide +kernel
set_option maxRecDepth 100000 in
set_option maxHeartbeats 4000000 in
theorem am_k88 : (am_tab 88).all (am_gd 88) = true := by decide +kernel
set_option maxRecDepth 100000 in
set_option maxHeartbeats 4000000 in
theorem am_k89 : (am_tab 89).all (am_gd 89) = true := by decide +kernel
set_option maxRecDepth 100000 in
set_option maxHeartbeats 4000000 in
theorem am_k90 : (am_tab 90).all (am_gd 90) = true := by decide +kernel
set_option maxRecDepth 100000 in
set_option maxHeartbeats 4000000 in
theorem am_k91 : (am_tab 91).all (am_gd 91) = true := by decide +kernel
set_option maxRecDepth 100000 in
set_option maxHeartbeats 4000000 in
theorem am_k92 : (am_tab 92).all (am_gd 92) = true := by decide +kernel
set_option maxRecDepth 100000 in
set_option maxHeartbeats 4000000 in
theorem am_k93 : (am_tab 93).all (am_gd 93) = true := by decide +kernel
set_option maxRecDepth 100000 in
set_option maxHeartbeats 4000000 in
theorem am_k94 : (am_tab 94).all (am_gd 94) = true := by decide +kernel
set_option maxRecDepth 100000 in
set_option maxHeartbeats 4000000 in
theorem am_k95 : (am_tab 95).all (am_gd 95) = true := by decide +kernel
set_option maxRecDepth 100000 in
set_option maxHeartbeats 4000000 in
theorem am_k96 : (am_tab 96).all (am_gd 96) = true := by decide +kernel
set_option maxRecDepth 100000 in
set_option maxHeartbeats 4000000 in
theorem am_k97 : (am_tab 97).all (am_gd 97) = true := by decide +kernel
set_option maxRecDepth 100000 in
set_option maxHeartbeats 4000000 in
theorem am_k98 : (am_tab 98).all (am_gd 98) = true := by decide +kernel
set_option maxRecDepth 100000 in
set_option maxHeartbeats 4000000 in
theorem am_k99 : (am_tab 99).all (am_gd 99) = true := by decide +kernel
set_option maxRecDepth 100000 in
set_option maxHeartbeats 4000000 in
theorem am_k100 : (am_tab 100).all (am_gd 100) = true := by decide +kernel
set_option maxRecDepth 100000 in
set_option maxHeartbeats 4000000 in
theorem am_k101 : (am_tab 101).all (am_gd 101) = true := by decide +kernel
set_option maxRecDepth 100000 in
set_option maxHeartbeats 4000000 in
theorem am_k102 : (am_tab 102).all (am_gd 102) = true := by decide +kernel
set_option maxRecDepth 100000 in
set_option maxHeartbeats 4000000 in
theorem am_k103 : (am_tab 103).all (am_gd 103) = true := by decide +kernel
set_option maxRecDepth 100000 in
set_option maxHeartbeats 4000000 in
theorem am_k104 : (am_tab 104).all (am_gd 104) = true := by decide +kernel
set_option maxRecDepth 100000 in
set_option maxHeartbeats 4000000 in
theorem am_k105 : (am_tab 105).all (am_gd 105) = true := by decide +kernel
set_option maxRecDepth 100000 in
set_option maxHeartbeats 4000000 in
theorem am_k106 : (am_tab 106).all (am_gd 106) = true := by decide +kernel
set_option maxRecDepth 100000 in
set_option maxHeartbeats 4000000 in
theorem am_k107 : (am_tab 107).all (am_gd 107) = true := by decide +kernel
set_option maxRecDepth 100000 in
set_option maxHeartbeats 4000000 in
theorem am_k108 : (am_tab 108).all (am_gd 108) = true := by decide +kernel
set_option maxRecDepth 100000 in
set_option maxHeartbeats 4000000 in
theorem am_k109 : (am_tab 109).all (am_gd 109) = true := by decide +kernel
set_option maxRecDepth 100000 in
set_option maxHeartbeats 4000000 in
theorem am_k110 : (am_tab 110).all (am_gd 110) = true := by decide +kernel
set_option maxRecDepth 100000 in
set_option maxHeartbeats 4000000 in
theorem am_k111 : (am_tab 111).all (am_gd 111) = true := by decide +kernel
set_option maxRecDepth 100000 in
set_option maxHeartbeats 4000000 in
theorem am_k112 : (am_tab 112).all (am_gd 112) = true := by decide +kernel
set_option maxRecDepth 100000 in
set_option maxHeartbeats 4000000 in
theorem am_k113 : (am_tab 113).all (am_gd 113) = true := by decide +kernel
set_option maxRecDepth 100000 in
set_option maxHeartbeats 4000000 in
theorem am_k114 : (am_tab 114).all (am_gd 114) = true := by decide +kernel
set_option maxRecDepth 100000 in
set_option maxHeartbeats 4000000 in
theorem am_k115 : (am_tab 115).all (am_gd 115) = true := by decide +kernel
set_option maxRecDepth 100000 in
set_option maxHeartbeats 4000000 in
theorem am_k116 : (am_tab 116).all (am_gd 116) = true := by decide +kernel
set_option maxRecDepth 100000 in
set_option maxHeartbeats 4000000 in
theorem am_k117 : (am_tab 117).all (am_gd 117) = true := by decide +kernel
set_option maxRecDepth 100000 in
set_option maxHeartbeats 4000000 in
theorem am_k118 : (am_tab 118).all (am_gd 118) = true := by decide +kernel
end CHK2
end
section
section CHK2
set_option maxRecDepth 100000 in
set_option maxHeartbeats 4000000 in
theorem am_k119_0 : am_t119_0.all (am_gd 119) = true := by decide +kernel
set_option maxRecDepth 100000 in
set_option maxHeartbeats 4000000 in
theorem am_k119_1 : am_t119_1.all (am_gd 119) = true := by decide +kernel
set_option maxRecDepth 100000 in
set_option maxHeartbeats 4000000 in
theorem am_k119_2 : am_t119_2.all (am_gd 119) = true := by decide +kernel
set_option maxRecDepth 100000 in
set_option maxHeartbeats 4000000 in
theorem am_k119_3 : am_t119_3.all (am_gd 119) = true := by decide +kernel
set_option maxRecDepth 100000 in
set_option maxHeartbeats 4000000 in
theorem am_k119_4 : am_t119_4.all (am_gd 119) = true := by decide +kernel
set_option maxRecDepth 100000 in
set_option maxHeartbeats 4000000 in
theorem am_k119_5 : am_t119_5.all (am_gd 119) = true := by decide +kernel
set_option maxRecDepth 100000 in
set_option maxHeartbeats 4000000 in
theorem am_k119_6 : am_t119_6.all (am_gd 119) = true := by decide +kernel
set_option maxRecDepth 100000 in
set_option maxHeartbeats 4000000 in
theorem am_k119_7 : am_t119_7.all (am_gd 119) = true := by decide +kernel
set_option maxRecDepth 100000 in
set_option maxHeartbeats 4000000 in
theorem am_k119_8 : am_t119_8.all (am_gd 119) = true := by decide +kernel
set_option maxRecDepth 100000 in
set_option maxHeartbeats 4000000 in
theorem am_k119_9 : am_t119_9.all (am_gd 119) = true := by decide +kernel
set_option maxRecDepth 100000 in
set_option maxHeartbeats 4000000 in
theorem am_k119_10 : am_t119_10.all (am_gd 119) = true := by decide +kernel
set_option maxRecDepth 100000 in
set_option maxHeartbeats 4000000 in
theorem am_k119_11 : am_t119_11.all (am_gd 119) = true := by decide +kernel
set_option maxRecDepth 100000 in
set_option maxHeartbeats 4000000 in
theorem am_k119_12 : am_t119_12.all (am_gd 119) = true := by decide +kernel
set_option maxRecDepth 100000 in
set_option maxHeartbeats 4000000 in
theorem am_k119_13 : am_t119_13.all (am_gd 119) = true := by decide +kernel
set_option maxRecDepth 100000 in
set_option maxHeartbeats 4000000 in
theorem am_k119_14 : am_t119_14.all (am_gd 119) = true := by decide +kernel
set_option maxRecDepth 100000 in
set_option maxHeartbeats 4000000 in
theorem am_k119_15 : am_t119_15.all (am_gd 119) = true := by decide +kernel
set_option maxRecDepth 100000 in
set_option maxHeartbeats 4000000 in
theorem am_k119_16 : am_t119_16.all (am_gd 119) = true := by decide +kernel
set_option maxRecDepth 100000 in
set_option maxHeartbeats 4000000 in
theorem am_k119_17 : am_t119_17.all (am_gd 119) = true := by decide +kernel
set_option maxRecDepth 100000 in
set_option maxHeartbeats 4000000 in
theorem am_k119_18 : am_t119_18.all (am_gd 119) = true := by decide +kernel
set_option maxRecDepth 100000 in
set_option maxHeartbeats 4000000 in
theorem am_k119_19 : am_t119_19.all (am_gd 119) = true := by decide +kernel
theorem am_k119 : (am_tab 119).all (am_gd 119) = true := by
  show (am_t119_0 ++ (am_t119_1 ++ (am_t119_2 ++ (am_t119_3 ++ (am_t119_4 ++ (am_t119_5 ++ (am_t119_6 ++ (am_t119_7 ++ (am_t119_8 ++ (am_t119_9 ++ (am_t119_10 ++ (am_t119_11 ++ (am_t119_12 ++ (am_t119_13 ++ (am_t119_14 ++ (am_t119_15 ++ (am_t119_16 ++ (am_t119_17 ++ (am_t119_18 ++ (am_t119_19)))))))))))))))))))).all (am_gd 119) = true
  simp only [List.all_append, am_k119_0, am_k119_1, am_k119_2, am_k119_3, am_k119_4, am_k119_5, am_k119_6, am_k119_7, am_k119_8, am_k119_9, am_k119_10, am_k119_11, am_k119_12, am_k119_13, am_k119_14, am_k119_15, am_k119_16, am_k119_17, am_k119_18, am_k119_19, Bool.and_self]
theorem am_tab_out (n : Nat) : am_tab (n + 120) = [] := by
  unfold am_tab
  rw [List.getD_eq_getElem?_getD, List.getElem?_eq_none (by show 120 ≤ n + 120; omega)]
  rfl
set_option maxRecDepth 100000 in
theorem am_chk (y pc : Nat) (i : am_I) (h : am_ins y pc = some i) : decode (am_cd y) pc = .ok (am_enc i pc) ∧ am_lk y pc i = true := by
  match y, h with
  | 0, h => exact am_gd_of am_k0 h
  | 1, h => exact am_gd_of am_k1 h
  | 2, h => exact am_gd_of am_k2 h
  | 3, h => exact am_gd_of am_k3 h
  | 4, h => exact am_gd_of am_k4 h
  | 5, h => exact am_gd_of am_k5 h
  | 6, h => exact am_gd_of am_k6 h
  | 7, h => exact am_gd_of am_k7 h
  | 8, h => exact am_gd_of am_k8 h
  | 9, h => exact am_gd_of am_k9 h
  | 10, h => exact am_gd_of am_k10 h
  | 11, h => exact am_gd_of am_k11 h
  | 12, h => exact am_gd_of am_k12 h
  | 13, h => exact am_gd_of am_k13 h
  | 14, h => exact am_gd_of am_k14 h
  | 15, h => exact am_gd_of am_k15 h
  | 16, h => exact am_gd_of am_k16 h
  | 17, h => exact am_gd_of am_k17 h
  | 18, h => exact am_gd_of am_k18 h
  | 19, h => exact am_gd_of am_k19 h
  | 20, h => exact am_gd_of am_k20 h
  | 21, h => exact am_gd_of am_k21 h
  | 22, h => exact am_gd_of am_k22 h
  | 23, h => exact am_gd_of am_k23 h
  | 24, h => exact am_gd_of am_k24 h
  | 25, h => exact am_gd_of am_k25 h
  | 26, h => exact am_gd_of am_k26 h
  | 27, h => exact am_gd_of am_k27 h
  | 28, h => exact am_gd_of am_k28 h
  | 29, h => exact am_gd_of am_k29 h
  | 30, h => exact am_gd_of am_k30 h
  | 31, h => exact am_gd_of am_k31 h
  | 32, h => exact am_gd_of am_k32 h
  | 33, h => exact am_gd_of am_k33 h
  | 34, h => exact am_gd_of am_k34 h
  | 35, h => exact am_gd_of am_k35 h
  | 36, h => exact am_gd_of am_k36 h
  | 37, h => exact am_gd_of am_k37 h
  | 38, h => exact am_gd_of am_k38 h
  | 39, h => exact am_gd_of am_k39 h
  | 40, h => exact am_gd_of am_k40 h
  | 41, h => exact am_gd_of am_k41 h
  | 42, h => exact am_gd_of am_k42 h
  | 43, h => exact am_gd_of am_k43 h
  | 44, h => exact am_gd_of am_k44 h
  | 45, h => exact am_gd_of am_k45 h
  | 46, h => exact am_gd_of am_k46 h
  | 47, h => exact am_gd_of am_k47 h
  | 48, h => exact am_gd_of am_k48 h
  | 49, h => exact am_gd_of am_k49 h
  | 50, h => exact am_gd_of am_k50 h
  | 51, h => exact am_gd_of am_k51 h
  | 52, h => exact am_gd_of am_k52 h
  | 53, h => exact am_gd_of am_k53 h
  | 54, h => exact am_gd_of am_k54 h
  | 55, h => exact am_gd_of am_k55 h
  | 56, h => exact am_gd_of am_k56 h
  | 57, h => exact am_gd_of am_k57 h
  | 58, h => exact am_gd_of am_k58 h
  | 59, h => exact am_gd_of am_k59 h
  | 60, h => exact am_gd_of am_k60 h
  | 61, h => exact am_gd_of am_k61 h
  | 62, h => exact am_gd_of am_k62 h
  | 63, h => exact am_gd_of am_k63 h
  | 64, h => exact am_gd_of am_k64 h
  | 65, h => exact am_gd_of am_k65 h
  | 66, h => exact am_gd_of am_k66 h
  | 67, h => exact am_gd_of am_k67 h
  | 68, h => exact am_gd_of am_k68 h
  | 69, h => exact am_gd_of am_k69 h
  | 70, h => exact am_gd_of am_k70 h
  | 71, h => exact am_gd_of am_k71 h
  | 72, h => exact am_gd_of am_k72 h
  | 73, h => exact am_gd_of am_k73 h
  | 74, h => exact am_gd_of am_k74 h
  | 75, h => exact am_gd_of am_k75 h
  | 76, h => exact am_gd_of am_k76 h
  | 77, h => exact am_gd_of am_k77 h
  | 78, h => exact am_gd_of am_k78 h
  | 79, h => exact am_gd_of am_k79 h
  | 80, h => exact am_gd_of am_k80 h
  | 81, h => exact am_gd_of am_k81 h
  | 82, h => exact am_gd_of am_k82 h
  | 83, h => exact am_gd_of am_k83 h
  | 84, h => exact am_gd_of am_k84 h
  | 85, h => exact am_gd_of am_k85 h
  | 86, h => exact am_gd_of am_k86 h
  | 87, h => exact am_gd_of am_k87 h
  | 88, h => exact am_gd_of am_k88 h
  | 89, h => exact am_gd_of am_k89 h
  | 90, h => exact am_gd_of am_k90 h
  | 91, h => exact am_gd_of am_k91 h
  | 92, h => exact am_gd_of am_k92 h
  | 93, h => exact am_gd_of am_k93 h
  | 94, h => exact am_gd_of am_k94 h
  | 95, h => exact am_gd_of am_k95 h
  | 96, h => exact am_gd_of am_k96 h
  | 97, h => exact am_gd_of am_k97 h
  | 98, h => exact am_gd_of am_k98 h
  | 99, h => exact am_gd_of am_k99 h
  | 100, h => exact am_gd_of am_k100 h
  | 101, h => exact am_gd_of am_k101 h
  | 102, h => exact am_gd_of am_k102 h
  | 103, h => exact am_gd_of am_k103 h
  | 104, h => exact am_gd_of am_k104 h
  | 105, h => exact am_gd_of am_k105 h
  | 106, h => exact am_gd_of am_k106 h
  | 107, h => exact am_gd_of am_k107 h
  | 108, h => exact am_gd_of am_k108 h
  | 109, h => exact am_gd_of am_k109 h
  | 110, h => exact am_gd_of am_k110 h
  | 111, h => exact am_gd_of am_k111 h
  | 112, h => exact am_gd_of am_k112 h
  | 113, h => exact am_gd_of am_k113 h
  | 114, h => exact am_gd_of am_k114 h
  | 115, h => exact am_gd_of am_k115 h
  | 116, h => exact am_gd_of am_k116 h
  | 117, h => exact am_gd_of am_k117 h
  | 118, h => exact am_gd_of am_k118 h
  | 119, h => exact am_gd_of am_k119 h
  | n + 120, h => unfold am_ins at h; rw [am_tab_out] at h; cases h
set_option maxRecDepth 100000 in
theorem am_code (x : Nat) (h : x < am_N) : Jvm.Cond.code (am_nm x) (am_cd x) (am_mx x) (am_rt x) ∈ am_ws := by
  match x, h with
  | 0, _ => exact am_ws_code (List.mem_append_right _ (List.mem_of_getElem? (i := 11) rfl)) rfl
  | 1, _ => exact am_ws_code (List.mem_append_right _ (List.mem_of_getElem? (i := 48) rfl)) rfl
  | 2, _ => exact am_ws_code (List.mem_append_right _ (List.mem_of_getElem? (i := 56) rfl)) rfl
  | 3, _ => exact am_ws_code (List.mem_append_right _ (List.mem_of_getElem? (i := 119) rfl)) rfl
  | 4, _ => exact am_ws_code (List.mem_append_right _ (List.mem_of_getElem? (i := 193) rfl)) rfl
  | 5, _ => exact am_ws_code (List.mem_append_right _ (List.mem_of_getElem? (i := 197) rfl)) rfl
  | 6, _ => exact am_ws_code (List.mem_append_right _ (List.mem_of_getElem? (i := 201) rfl)) rfl
  | 7, _ => exact am_ws_code (List.mem_append_right _ (List.mem_of_getElem? (i := 205) rfl)) rfl
  | 8, _ => exact am_ws_code (List.mem_append_right _ (List.mem_of_getElem? (i := 212) rfl)) rfl
  | 9, _ => exact am_ws_code (List.mem_append_right _ (List.mem_of_getElem? (i := 216) rfl)) rfl
  | 10, _ => exact am_ws_code (List.mem_append_right _ (List.mem_of_getElem? (i := 224) rfl)) rfl
  | 11, _ => exact am_ws_code (List.mem_append_right _ (List.mem_of_getElem? (i := 252) rfl)) rfl
  | 12, _ => exact am_ws_code (List.mem_append_right _ (List.mem_of_getElem? (i := 256) rfl)) rfl
  | 13, _ => exact am_ws_code (List.mem_append_right _ (List.mem_of_getElem? (i := 264) rfl)) rfl
  | 14, _ => exact am_ws_code (List.mem_append_right _ (List.mem_of_getElem? (i := 268) rfl)) rfl
  | 15, _ => exact am_ws_code (List.mem_append_right _ (List.mem_of_getElem? (i := 276) rfl)) rfl
  | 16, _ => exact am_ws_code (List.mem_append_right _ (List.mem_of_getElem? (i := 280) rfl)) rfl
  | 17, _ => exact am_ws_code (List.mem_append_right _ (List.mem_of_getElem? (i := 284) rfl)) rfl
  | 18, _ => exact am_ws_code (List.mem_append_right _ (List.mem_of_getElem? (i := 308) rfl)) rfl
  | 19, _ => exact am_ws_code (List.mem_append_right _ (List.mem_of_getElem? (i := 312) rfl)) rfl
  | 20, _ => exact am_ws_code (List.mem_append_right _ (List.mem_of_getElem? (i := 323) rfl)) rfl
  | 21, _ => exact am_ws_code (List.mem_append_right _ (List.mem_of_getElem? (i := 327) rfl)) rfl
  | 22, _ => exact am_ws_code (List.mem_append_right _ (List.mem_of_getElem? (i := 331) rfl)) rfl
  | 23, _ => exact am_ws_code (List.mem_append_right _ (List.mem_of_getElem? (i := 335) rfl)) rfl
  | 24, _ => exact am_ws_code (List.mem_append_right _ (List.mem_of_getElem? (i := 339) rfl)) rfl
  | 25, _ => exact am_ws_code (List.mem_append_right _ (List.mem_of_getElem? (i := 343) rfl)) rfl
  | 26, _ => exact am_ws_code (List.mem_append_right _ (List.mem_of_getElem? (i := 347) rfl)) rfl
  | 27, _ => exact am_ws_code (List.mem_append_right _ (List.mem_of_getElem? (i := 352) rfl)) rfl
  | 28, _ => exact am_ws_code (List.mem_append_right _ (List.mem_of_getElem? (i := 356) rfl)) rfl
  | 29, _ => exact am_ws_code (List.mem_append_right _ (List.mem_of_getElem? (i := 367) rfl)) rfl
  | 30, _ => exact am_ws_code (List.mem_append_right _ (List.mem_of_getElem? (i := 123) rfl)) rfl
  | 31, _ => exact am_ws_code (List.mem_append_right _ (List.mem_of_getElem? (i := 142) rfl)) rfl
  | 32, _ => exact am_ws_code (List.mem_append_right _ (List.mem_of_getElem? (i := 135) rfl)) rfl
  | 33, _ => exact am_ws_code (List.mem_append_right _ (List.mem_of_getElem? (i := 157) rfl)) rfl
  | 34, _ => exact am_ws_code (List.mem_append_right _ (List.mem_of_getElem? (i := 177) rfl)) rfl
  | 35, _ => exact am_ws_code (List.mem_append_right _ (List.mem_of_getElem? (i := 185) rfl)) rfl
  | 36, _ => exact am_ws_code (List.mem_append_right _ (List.mem_of_getElem? (i := 139) rfl)) rfl
  | 37, _ => exact am_ws_code (List.mem_append_right _ (List.mem_of_getElem? (i := 208) rfl)) rfl
  | 38, _ => exact am_ws_code (List.mem_append_right _ (List.mem_of_getElem? (i := 300) rfl)) rfl
  | 39, _ => exact am_ws_code (List.mem_append_right _ (List.mem_of_getElem? (i := 304) rfl)) rfl
  | 40, _ => exact am_ws_code (List.mem_append_right _ (List.mem_of_getElem? (i := 296) rfl)) rfl
  | 41, _ => exact am_ws_code (List.mem_append_right _ (List.mem_of_getElem? (i := 319) rfl)) rfl
  | 42, _ => exact am_ws_code (List.mem_append_right _ (List.mem_of_getElem? (i := 288) rfl)) rfl
  | 43, _ => exact am_ws_code (List.mem_append_right _ (List.mem_of_getElem? (i := 371) rfl)) rfl
  | 44, _ => exact am_ws_code (List.mem_append_right _ (List.mem_of_getElem? (i := 375) rfl)) rfl
  | 45, _ => exact am_ws_code (List.mem_append_right _ (List.mem_of_getElem? (i := 381) rfl)) rfl
  | 46, _ => exact am_ws_code (List.mem_append_right _ (List.mem_of_getElem? (i := 445) rfl)) rfl
  | 47, _ => exact am_ws_code (List.mem_append_right _ (List.mem_of_getElem? (i := 461) rfl)) rfl
  | 48, _ => exact am_ws_code (List.mem_append_right _ (List.mem_of_getElem? (i := 457) rfl)) rfl
  | 49, _ => exact am_ws_code (List.mem_append_right _ (List.mem_of_getElem? (i := 465) rfl)) rfl
  | 50, _ => exact am_ws_code (List.mem_append_right _ (List.mem_of_getElem? (i := 481) rfl)) rfl
  | 51, _ => exact am_ws_code (List.mem_append_right _ (List.mem_of_getElem? (i := 473) rfl)) rfl
  | 52, _ => exact am_ws_code (List.mem_append_right _ (List.mem_of_getElem? (i := 541) rfl)) rfl
  | 53, _ => exact am_ws_code (List.mem_append_right _ (List.mem_of_getElem? (i := 497) rfl)) rfl
  | 54, _ => exact am_ws_code (List.mem_append_right _ (List.mem_of_getElem? (i := 469) rfl)) rfl
  | 55, _ => exact am_ws_code (List.mem_append_right _ (List.mem_of_getElem? (i := 493) rfl)) rfl
  | 56, _ => exact am_ws_code (List.mem_append_right _ (List.mem_of_getElem? (i := 501) rfl)) rfl
  | 57, _ => exact am_ws_code (List.mem_append_right _ (List.mem_of_getElem? (i := 477) rfl)) rfl
  | 58, _ => exact am_ws_code (List.mem_append_right _ (List.mem_of_getElem? (i := 485) rfl)) rfl
  | 59, _ => exact am_ws_code (List.mem_append_right _ (List.mem_of_getElem? (i := 545) rfl)) rfl
  | 60, _ => exact am_ws_code (List.mem_append_right _ (List.mem_of_getElem? (i := 537) rfl)) rfl
  | 61, _ => exact am_ws_code (List.mem_append_right _ (List.mem_of_getElem? (i := 585) rfl)) rfl
  | 62, _ => exact am_ws_code (List.mem_append_right _ (List.mem_of_getElem? (i := 449) rfl)) rfl
  | 63, _ => exact am_ws_code (List.mem_append_right _ (List.mem_of_getElem? (i := 489) rfl)) rfl
  | 64, _ => exact am_ws_code (List.mem_append_right _ (List.mem_of_getElem? (i := 453) rfl)) rfl
  | 65, _ => exact am_ws_code (List.mem_append_right _ (List.mem_of_getElem? (i := 505) rfl)) rfl
  | 66, _ => exact am_ws_code (List.mem_append_right _ (List.mem_of_getElem? (i := 509) rfl)) rfl
  | 67, _ => exact am_ws_code (List.mem_append_right _ (List.mem_of_getElem? (i := 513) rfl)) rfl
  | 68, _ => exact am_ws_code (List.mem_append_right _ (List.mem_of_getElem? (i := 517) rfl)) rfl
  | 69, _ => exact am_ws_code (List.mem_append_right _ (List.mem_of_getElem? (i := 521) rfl)) rfl
  | 70, _ => exact am_ws_code (List.mem_append_right _ (List.mem_of_getElem? (i := 525) rfl)) rfl
  | 71, _ => exact am_ws_code (List.mem_append_right _ (List.mem_of_getElem? (i := 533) rfl)) rfl
  | 72, _ => exact am_ws_code (List.mem_append_right _ (List.mem_of_getElem? (i := 529) rfl)) rfl
  | 73, _ => exact am_ws_code (List.mem_append_right _ (List.mem_of_getElem? (i := 549) rfl)) rfl
  | 74, _ => exact am_ws_code (List.mem_append_right _ (List.mem_of_getElem? (i := 553) rfl)) rfl
  | 75, _ => exact am_ws_code (List.mem_append_right _ (List.mem_of_getElem? (i := 557) rfl)) rfl
  | 76, _ => exact am_ws_code (List.mem_append_right _ (List.mem_of_getElem? (i := 561) rfl)) rfl
  | 77, _ => exact am_ws_code (List.mem_append_right _ (List.mem_of_getElem? (i := 565) rfl)) rfl
  | 78, _ => exact am_ws_code (List.mem_append_right _ (List.mem_of_getElem? (i := 569) rfl)) rfl
  | 79, _ => exact am_ws_code (List.mem_append_right _ (List.mem_of_getElem? (i := 573) rfl)) rfl
  | 80, _ => exact am_ws_code (List.mem_append_right _ (List.mem_of_getElem? (i := 577) rfl)) rfl
  | 81, _ => exact am_ws_code (List.mem_append_right _ (List.mem_of_getElem? (i := 581) rfl)) rfl
  | 82, _ => exact am_ws_code (List.mem_append_right _ (List.mem_of_getElem? (i := 589) rfl)) rfl
  | 83, _ => exact am_ws_code (List.mem_append_right _ (List.mem_of_getElem? (i := 593) rfl)) rfl
  | 84, _ => exact am_ws_code (List.mem_append_right _ (List.mem_of_getElem? (i := 597) rfl)) rfl
  | 85, _ => exact am_ws_code (List.mem_append_right _ (List.mem_of_getElem? (i := 601) rfl)) rfl
  | 86, _ => exact am_ws_code (List.mem_append_right _ (List.mem_of_getElem? (i := 605) rfl)) rfl
  | 87, _ => exact am_ws_code (List.mem_append_right _ (List.mem_of_getElem? (i := 609) rfl)) rfl
  | 88, _ => exact am_ws_code (List.mem_append_right _ (List.mem_of_getElem? (i := 613) rfl)) rfl
  | 89, _ => exact am_ws_code (List.mem_append_right _ (List.mem_of_getElem? (i := 617) rfl)) rfl
  | 90, _ => exact am_ws_code (List.mem_append_right _ (List.mem_of_getElem? (i := 621) rfl)) rfl
  | 91, _ => exact am_ws_code (List.mem_append_right _ (List.mem_of_getElem? (i := 625) rfl)) rfl
  | 92, _ => exact am_ws_code (List.mem_append_right _ (List.mem_of_getElem? (i := 21) rfl)) rfl
  | 93, _ => exact am_ws_code (List.mem_append_right _ (List.mem_of_getElem? (i := 52) rfl)) rfl
  | 94, _ => exact am_ws_code (List.mem_append_right _ (List.mem_of_getElem? (i := 146) rfl)) rfl
  | 95, _ => exact am_ws_code (List.mem_append_right _ (List.mem_of_getElem? (i := 360) rfl)) rfl
  | 96, _ => exact am_ws_code (List.mem_append_right _ (List.mem_of_getElem? (i := 227) rfl)) rfl
  | 97, _ => exact am_ws_code (List.mem_append_right _ (List.mem_of_getElem? (i := 315) rfl)) rfl
  | 98, _ => exact am_ws_code (List.mem_append_right _ (List.mem_of_getElem? (i := 259) rfl)) rfl
  | 99, _ => exact am_ws_code (List.mem_append_right _ (List.mem_of_getElem? (i := 230) rfl)) rfl
  | 100, _ => exact am_ws_code (List.mem_append_right _ (List.mem_of_getElem? (i := 233) rfl)) rfl
  | 101, _ => exact am_ws_code (List.mem_append_right _ (List.mem_of_getElem? (i := 242) rfl)) rfl
  | 102, _ => exact am_ws_code (List.mem_append_right _ (List.mem_of_getElem? (i := 248) rfl)) rfl
  | 103, _ => exact am_ws_code (List.mem_append_right _ (List.mem_of_getElem? (i := 245) rfl)) rfl
  | 104, _ => exact am_ws_code (List.mem_append_right _ (List.mem_of_getElem? (i := 60) rfl)) rfl
  | 105, _ => exact am_ws_code (List.mem_append_right _ (List.mem_of_getElem? (i := 131) rfl)) rfl
  | 106, _ => exact am_ws_code (List.mem_append_right _ (List.mem_of_getElem? (i := 127) rfl)) rfl
  | 107, _ => exact am_ws_code (List.mem_append_right _ (List.mem_of_getElem? (i := 272) rfl)) rfl
  | 108, _ => exact am_ws_code (List.mem_append_right _ (List.mem_of_getElem? (i := 165) rfl)) rfl
  | 109, _ => exact am_ws_code (List.mem_append_right _ (List.mem_of_getElem? (i := 161) rfl)) rfl
  | 110, _ => exact am_ws_code (List.mem_append_right _ (List.mem_of_getElem? (i := 169) rfl)) rfl
  | 111, _ => exact am_ws_code (List.mem_append_right _ (List.mem_of_getElem? (i := 220) rfl)) rfl
  | 112, _ => exact am_ws_code (List.mem_append_right _ (List.mem_of_getElem? (i := 181) rfl)) rfl
  | 113, _ => exact am_ws_code (List.mem_append_right _ (List.mem_of_getElem? (i := 173) rfl)) rfl
  | 114, _ => exact am_ws_code (List.mem_append_right _ (List.mem_of_getElem? (i := 237) rfl)) rfl
  | 115, _ => exact am_ws_code (List.mem_append_right _ (List.mem_of_getElem? (i := 292) rfl)) rfl
  | 116, _ => exact am_ws_code (List.mem_append_right _ (List.mem_of_getElem? (i := 189) rfl)) rfl
  | 117, _ => exact am_ws_code (List.mem_append_right _ (List.mem_of_getElem? (i := 153) rfl)) rfl
  | 118, _ => exact am_ws_code (List.mem_append_right _ (List.mem_of_getElem? (i := 149) rfl)) rfl
  | n + 119, h => exact absurd h (by show ¬ n + 119 < 119; omega)
theorem am_oi : Jvm.Cond.code Lib.objectInit ⟨#[0xb1]⟩ 1 none ∈ am_ws := am_ws_code (List.mem_append_right _ (List.mem_of_getElem? (i := 14) rfl)) rfl
theorem am_mi0 : Jvm.Cond.code Lib.Math.min.name Lib.Math.min.code 2 (some .int) ∈ am_ws := am_ws_code (List.mem_append_right _ (List.mem_of_getElem? (i := 363) rfl)) rfl
set_option maxRecDepth 100000 in
theorem am_clk : ∀ (c : Nat) (r : vw_C), am_cl[c]? = some r → (∀ w ∈ u_ws r.1 r.2.1 r.2.2, w ∈ am_ws) ∧ (∀ k, k < r.2.2 → parseFieldDescriptor (r.2.1 k).2.2.1 = some (am_tf c k)) ∧ (∀ a, a < r.2.2 → ∀ b, b < r.2.2 → a ≠ b → (r.2.1 a).2.1 ≠ (r.2.1 b).2.1) := by
  intro c r h
  match c, h with
  | 0, h => cases h; exact ⟨by decide +kernel, by decide +kernel, by decide +kernel⟩
  | 1, h => cases h; exact ⟨by decide +kernel, by decide +kernel, by decide +kernel⟩
  | 2, h => cases h; exact ⟨by decide +kernel, by decide +kernel, by decide +kernel⟩
  | 3, h => cases h; exact ⟨by decide +kernel, by decide +kernel, by decide +kernel⟩
  | n + 4, h => simp [am_cl] at h
theorem am_lv1 (y pc : Nat) (i : am_I) (_ : am_ins y pc = some i) : 1 ≤ am_lv y := by
  unfold am_lv
  by_cases h : y < am_mt.length
  · have h1 : am_mt.all (fun q => decide (1 ≤ q.2.2.2.2)) = true := by decide +kernel
    have h2 := List.all_eq_true.mp h1 (am_mt.getD y am_m0) (by rw [List.getD_eq_getElem?_getD, List.getElem?_eq_getElem h]; exact List.getElem_mem h)
    simpa using h2
  · rw [List.getD_eq_getElem?_getD, List.getElem?_eq_none (Nat.not_lt.mp h)]
    decide
end CHK2
end
section
-- THE REAL MACHINE DOES WHAT THE SMALL ONE DOES
section SND1
def am_v (v : am_V) : Value := match v with
  | .inl x => .int x
  | .inr (.inl q) => va_rf q.2
  | .inr (.inr _) => .null
theorem am_v_cat (v : am_V) : (am_v v).category = 1 := by
  rcases v with x | ⟨t, _ | a⟩ | u <;> rfl
theorem am_v_sum (st : List am_V) : ((st.map am_v).map fun v => v.category).sum = st.length := by
  induction st with
  | nil => rfl
  | cons v st ih => simp only [List.map_cons, List.sum_cons, ih, am_v_cat, List.length_cons]; omega
-- the locals: what is known of each
def am_lo (ls : Array Slot) (lo : List am_V) (n : Nat) : Prop := ls.size = n ∧ lv_wf ls ∧ lo.length = n ∧ ∀ (i : Nat) (v : am_V), lo[i]? = some v → v ≠ am_u → ls[i]? = some (.val (am_v v))
def am_kl (lo : List am_V) : List (Nat × Value) := (List.range lo.length).filterMap (fun (j : Nat) => match (lo[j]? : Option am_V) with
  | some (.inl x) => some (j, .int x)
  | some (.inr (.inl q)) => some (j, va_rf q.2)
  | _ => none)
theorem am_kl_mem {lo : List am_V} {j : Nat} {v : am_V} (h : lo[j]? = some v) (hv : v ≠ am_u) : (j, am_v v) ∈ am_kl lo := by
  refine List.mem_filterMap.mpr ⟨j, List.mem_range.mpr (List.getElem?_eq_some_iff.mp h).1, ?_⟩
  rw [h]
  rcases v with x | q | u
  · rfl
  · rfl
  · exact absurd rfl hv
theorem am_kl_of {lo : List am_V} {q : Nat × Value} (h : q ∈ am_kl lo) : ∃ v, lo[q.1]? = some v ∧ v ≠ am_u ∧ q.2 = am_v v := by
  obtain ⟨j, -, hj⟩ := List.mem_filterMap.mp h
  cases hl : lo[j]? with
  | none => rw [hl] at hj; cases hj
  | some v =>
    rw [hl] at hj
    rcases v with x | r | u
    · cases hj; exact ⟨_, hl, by simp, rfl⟩
    · cases hj; exact ⟨_, hl, by simp, rfl⟩
    · cases hj
theorem am_lo.has {ls : Array Slot} {lo : List am_V} {n : Nat} (h : am_lo ls lo n) : lv_has ls n (am_kl lo) :=
  ⟨h.1, h.2.1, fun q hq => by
    obtain ⟨v, h1, h2, h3⟩ := am_kl_of hq
    rw [h3]
    exact h.2.2.2 _ _ h1 h2⟩
theorem am_lo.set {ls ls' : Array Slot} {lo : List am_V} {n i : Nat} {v : am_V} (h : am_lo ls lo n) (h' : lv_has ls' n ((i, am_v v) :: (am_kl lo).filter (fun q => !(q.1 == i) && !(q.1 + 1 == i && q.2.category == 2)))) : am_lo ls' (lo.set i v) n := by
  refine ⟨h'.1, h'.2.1, by rw [List.length_set]; exact h.2.2.1, fun j w hj hw => ?_⟩
  by_cases hji : j = i
  · subst hji
    have hlt : j < lo.length := by
      have := (List.getElem?_eq_some_iff.mp hj).1
      rwa [List.length_set] at this
    rw [List.getElem?_set_self hlt] at hj
    cases hj
    exact h'.2.2 (j, am_v v) List.mem_cons_self
  · rw [List.getElem?_set_ne (Ne.symm hji)] at hj
    refine h'.2.2 (j, am_v w) (List.mem_cons_of_mem _ (List.mem_filter.mpr ⟨am_kl_mem hj hw, ?_⟩))
    simp [hji, am_v_cat]
theorem am_lo.at {ls : Array Slot} {lo : List am_V} {n i : Nat} {v : am_V} (h : am_lo ls lo n) (hl : lo[i]? = some v) (hv : v ≠ am_u) : ls[i]? = some (.val (am_v v)) := h.2.2.2 i v hl hv
-- the memory
def am_fv (M : am_M) (t a k : Nat) : Value := if am_ft t k = 2 then va_rf (am_mr M a k) else .int (am_mi M a k)
def am_ev (M : am_M) (t a k : Nat) : Value := if am_ak t = 3 then va_rf (am_mr M a k) else .int (am_mi M a k)
def am_cell (D : va_G) (s : State) (M : am_M) (H : Heap) (a t : Nat) : Prop :=
  if am_ak t = 0 then ∃ r : vw_C, am_cl[am_ci t]? = some r ∧ t_OB a (D.1 (am_ci t)) r.2.2 (D.2 (am_ci t)) H (am_fv M t a)
  else if am_ak t = 4 then ∃ scr : Cell, H[a]? = some scr ∧ s.isArrayOf scr .int ∧ scr.vm ≠ .unknown ∧ scr.slots.size = am_L M ∧ ∀ j : Nat, j < am_L M → scr.slots[j]? = some (.int (am_mi M a j))
  else ∃ cA : ClassId, H[a]? = some (arrV cA (am_ln t (am_L M)) (am_ev M t a)) ∧ ArrOfT s cA (am_ty t) ∧ va_RA s cA (am_ty t)
def am_wm (M : am_M) : Prop := ∀ (a k b : Nat), am_mr M a k = some b → am_tg M b = am_fr (am_tg M a) k ∧ am_tg M b ≠ 0
def am_Rep (D : va_G) (s : State) (base : Nat) (M : am_M) (H : Heap) : Prop := H.size = am_sz M ∧ base ≤ am_sz M ∧ (∀ a : Nat, am_tg M a ≠ 0 → (am_ak (am_tg M a) ≠ 4 → base ≤ a) ∧ am_cell D s M H a (am_tg M a)) ∧ am_wm M
def am_wv (M : am_M) (v : am_V) : Prop := ∀ (t a : Nat), v = .inr (.inl (t, some a)) → am_tg M a = t ∧ t ≠ 0
def am_wt (M : am_M) (l : List am_V) : Prop := ∀ v ∈ l, am_wv M v
theorem am_wv_i (M : am_M) (x : Int32) : am_wv M (.inl x) := fun t a h => by cases h
theorem am_wv_n (M : am_M) (t : Nat) : am_wv M (.inr (.inl (t, none))) := fun t a h => by cases h
theorem am_wv_u (M : am_M) : am_wv M (.inr (.inr ())) := fun t a h => by cases h
theorem am_wt_c {M : am_M} {v : am_V} {l : List am_V} (h1 : am_wv M v) (h2 : am_wt M l) : am_wt M (v :: l) := fun w hw => by
  rcases List.mem_cons.mp hw with h | h
  · rw [h]; exact h1
  · exact h2 w h
theorem am_wt_h {M : am_M} {v : am_V} {l : List am_V} (h : am_wt M (v :: l)) : am_wv M v := h v List.mem_cons_self
theorem am_wt_t {M : am_M} {v : am_V} {l : List am_V} (h : am_wt M (v :: l)) : am_wt M l := fun w hw => h w (List.mem_cons_of_mem _ hw)
theorem am_wt_at {M : am_M} {l : List am_V} {i : Nat} {v : am_V} (h : am_wt M l) (hl : l[i]? = some v) : am_wv M v := h v (List.mem_of_getElem? hl)
theorem am_wt_set {M : am_M} {l : List am_V} {i : Nat} {v : am_V} (h : am_wt M l) (hv : am_wv M v) : am_wt M (l.set i v) := fun w hw => by
  rcases List.mem_or_eq_of_mem_set hw with h1 | h1
  · exact h w h1
  · rw [h1]; exact hv
theorem am_wt_to {M M' : am_M} {l : List am_V} (ht : ∀ a : Nat, am_tg M a ≠ 0 → am_tg M' a = am_tg M a) (h : am_wt M l) : am_wt M' l := fun v hv t a e => by
  have h1 := h v hv t a e
  refine ⟨by rw [ht a (by rw [h1.1]; exact h1.2)]; exact h1.1, h1.2⟩
theorem am_cell_lt {D : va_G} {s : State} {M : am_M} {H : Heap} {a t : Nat} (h : am_cell D s M H a t) : a < H.size := by
  unfold am_cell at h
  split at h
  · obtain ⟨r, -, cell, h1, -⟩ := h
    exact (Array.getElem?_eq_some_iff.mp h1).1
  · split at h
    · obtain ⟨scr, h1, -⟩ := h
      exact (Array.getElem?_eq_some_iff.mp h1).1
    · obtain ⟨cA, h1, -⟩ := h
      exact (Array.getElem?_eq_some_iff.mp h1).1
theorem am_cell_other {D : va_G} {s : State} {M M' : am_M} {H H' : Heap} {a t : Nat} (hL : am_L M' = am_L M) (hi : ∀ k, am_mi M' a k = am_mi M a k) (hr : ∀ k, am_mr M' a k = am_mr M a k) (hq : H'[a]? = H[a]?) (h : am_cell D s M H a t) : am_cell D s M' H' a t := by
  have e1 : am_fv M' t a = am_fv M t a := by funext k; unfold am_fv; rw [hi, hr]
  have e2 : am_ev M' t a = am_ev M t a := by funext k; unfold am_ev; rw [hi, hr]
  unfold am_cell at h ⊢
  rw [e1, e2, hL]
  split
  · rename_i h0
    rw [if_pos h0] at h
    obtain ⟨r, h1, h2⟩ := h
    exact ⟨r, h1, h2.kept hq⟩
  · rename_i h0
    rw [if_neg h0] at h
    split
    · rename_i h4
      rw [if_pos h4] at h
      obtain ⟨scr, h1, h2, h3, h5, h6⟩ := h
      exact ⟨scr, by rw [hq]; exact h1, h2, h3, h5, fun j hj => by rw [hi]; exact h6 j hj⟩
    · rename_i h4
      rw [if_neg h4] at h
      obtain ⟨cA, h1, h2⟩ := h
      exact ⟨cA, by rw [hq]; exact h1, h2⟩
theorem am_cell_moved {D : va_G} {u U : State} {M : am_M} {H : Heap} {a t : Nat} (hvm : u.vm.Alike U.vm) (h : am_cell D u M H a t) : am_cell D U M H a t := by
  unfold am_cell at h ⊢
  split
  · rename_i h0
    rw [if_pos h0] at h
    exact h
  · rename_i h0
    rw [if_neg h0] at h
    split
    · rename_i h4
      rw [if_pos h4] at h
      obtain ⟨scr, h1, h2, h3⟩ := h
      exact ⟨scr, h1, State.isArrayOf_alike hvm h2, h3⟩
    · rename_i h4
      rw [if_neg h4] at h
      obtain ⟨cA, h1, h2, h3⟩ := h
      exact ⟨cA, h1, arrOfT_moved hvm h2, h3.moved hvm⟩
theorem am_Rep.moved {D : va_G} {u U : State} {base : Nat} {M : am_M} {H : Heap} (hvm : u.vm.Alike U.vm) (h : am_Rep D u base M H) : am_Rep D U base M H :=
  ⟨h.1, h.2.1, fun a ha => ⟨(h.2.2.1 a ha).1, am_cell_moved hvm (h.2.2.1 a ha).2⟩, h.2.2.2⟩
-- one cell has changed
theorem am_Rep.set {D : va_G} {s : State} {base : Nat} {M M' : am_M} {H H' : Heap} {a : Nat} (h : am_Rep D s base M H) (hz : H'.size = H.size) (oq : ∀ q : Nat, q ≠ a → H'[q]? = H[q]?) (h1 : am_sz M' = am_sz M) (hL : am_L M' = am_L M) (ht : am_tg M' = am_tg M) (hi : ∀ b, b ≠ a → ∀ k, am_mi M' b k = am_mi M b k) (hr : ∀ b, b ≠ a → ∀ k, am_mr M' b k = am_mr M b k) (hc : am_cell D s M' H' a (am_tg M a)) (hw : am_wm M') : am_Rep D s base M' H' := by
  refine ⟨by rw [hz, h1]; exact h.1, by rw [h1]; exact h.2.1, fun b hb => ?_, hw⟩
  rw [ht] at hb ⊢
  refine ⟨(h.2.2.1 b hb).1, ?_⟩
  by_cases hba : b = a
  · subst hba; exact hc
  · exact am_cell_other hL (hi b hba) (hr b hba) (oq b hba) (h.2.2.1 b hb).2
-- a cell has been made
theorem am_Rep.al {D : va_G} {s : State} {base : Nat} {M : am_M} {H H' : Heap} {t n : Nat} (h : am_Rep D s base M H) (h0 : t ≠ 0) (h4 : am_ak t ≠ 4) (hz : H'.size = H.size + 1) (oq : ∀ q : Nat, q < H.size → H'[q]? = H[q]?) (hc : am_cell D s (am_al M t n) H' H.size t) : am_Rep D s base (am_al M t n) H' := by
  have hs : am_sz (am_al M t n) = am_sz M + 1 := rfl
  have tgn : am_tg (am_al M t n) (am_sz M) = t := by simp [am_tg, am_al]
  have tgo : ∀ b, b ≠ am_sz M → am_tg (am_al M t n) b = am_tg M b := fun b hb => by simp [am_tg, am_al, hb]
  refine ⟨by rw [hz, hs, h.1], by rw [hs]; exact Nat.le_trans h.2.1 (Nat.le_succ _), fun b hb => ?_, fun a k b hab => ?_⟩
  · by_cases hbs : b = am_sz M
    · subst hbs
      rw [tgn]
      refine ⟨fun _ => h.2.1, ?_⟩
      rw [← h.1]; exact hc
    · rw [tgo b hbs] at hb ⊢
      have h2 := h.2.2.1 b hb
      refine ⟨h2.1, am_cell_other (M := M) (H := H) rfl (fun k => by simp [am_mi, am_al, hbs]) (fun k => by simp [am_mr, am_al, hbs]) (oq b (am_cell_lt h2.2)) h2.2⟩
  · have hne : a ≠ am_sz M := fun q => by
      subst q
      simp [am_mr, am_al] at hab
    have hab' : am_mr M a k = some b := by
      simpa [am_mr, am_al, hne] using hab
    have h2 := h.2.2.2 a k b hab'
    have hb : b ≠ am_sz M := fun q => by
      have h3 := am_cell_lt (h.2.2.1 b h2.2).2
      rw [h.1, q] at h3
      exact Nat.lt_irrefl _ h3
    rw [tgo b hb, tgo a hne]
    exact h2
theorem am_wm_si {M : am_M} {a k : Nat} {x : Int32} (h : am_wm M) : am_wm (am_si M a k x) := h
theorem am_wm_sr {M : am_M} {a k : Nat} {o : Option Nat} (h : am_wm M) (ho : ∀ b, o = some b → am_tg M b = am_fr (am_tg M a) k ∧ am_tg M b ≠ 0) : am_wm (am_sr M a k o) := by
  intro a' k' b hb
  show am_tg M b = am_fr (am_tg M a') k' ∧ am_tg M b ≠ 0
  by_cases hk : a' = a ∧ k' = k
  · obtain ⟨rfl, rfl⟩ := hk
    simp [am_mr, am_sr] at hb
    exact ho b hb
  · simp only [am_mr, am_sr, if_neg hk] at hb
    exact h a' k' b hb
theorem am_al_sz (M : am_M) (t n : Nat) : am_sz (am_al M t n) = am_sz M + 1 := rfl
theorem am_al_sl (M : am_M) (t n : Nat) : am_sl (am_al M t n) = am_sl M + n := rfl
theorem am_al_tg {D : va_G} {s : State} {base : Nat} {M : am_M} {H : Heap} (h : am_Rep D s base M H) (t n : Nat) : ∀ a : Nat, am_tg M a ≠ 0 → am_tg (am_al M t n) a = am_tg M a := fun a ha => by
  have hne : a ≠ am_sz M := fun q => by
    have h3 := am_cell_lt (h.2.2.1 a ha).2
    rw [h.1, q] at h3
    exact Nat.lt_irrefl _ h3
  simp [am_tg, am_al, hne]
theorem am_ok_in {j : Int32} {n : Nat} (h : am_ok j n = true) : ¬ (j < 0 ∨ n ≤ j.toNatClampNeg) := by
  unfold am_ok at h
  rw [Bool.and_eq_true, decide_eq_true_eq, decide_eq_true_eq] at h
  intro q
  rcases q with q | q
  · rw [Int32.lt_iff_toInt_lt] at q
    have : (0 : Int32).toInt = 0 := rfl
    omega
  · have : j.toNatClampNeg = j.toInt.toNat := rfl
    omega
theorem am_ok_lt {j : Int32} {n : Nat} (h : am_ok j n = true) : j.toNatClampNeg < n := Nat.not_le.mp fun q => am_ok_in h (Or.inr q)
-- the classes' numbers, and the nest mates' links
def am_K (D : va_G) (U : State) : Prop := va_K D am_cl [] U ∧ (∀ q ∈ am_nw, va_Nw (.methodLinkNest q.1 q.2.1 q.2.2.1 q.2.2.2) U) ∧ va_AO am_C1 U
theorem am_K.moved {D : va_G} {s U : State} (hW : s.WarmedH U.vm) (h : am_K D s) : am_K D U := ⟨va_K.moved hW.alike h.1, fun q hq => va_Nw.warmM hW (h.2.1 q hq), va_AO.moved hW.alike h.2.2⟩
theorem am_K.calling {D : va_G} {U : State} {g : JFrame} {mk : MethodId} {a : Array Value} (h : am_K D U) : am_K D (U.calling g mk a) := ⟨va_K.moved (u := U) (U := U.calling g mk a) (Vm.Alike.refl U.vm) h.1, fun q hq => va_Nw.same (u := U) (U := U.calling g mk a) rfl rfl (h.2.1 q hq), va_AO.moved (u := U) (U := U.calling g mk a) (Vm.Alike.refl U.vm) h.2.2⟩
-- what holds at a method's body
def am_At (p : Program) (s : State) (m : MethodId) (args : Array Value) (meth : Method) (c : Code) (D : va_G) (y : Nat) : Prop :=
  p.tables.exec = Jvm.exec ∧ c.code = am_cd y ∧ c.maxLocals = am_mx y ∧ s.vm.findClass (am_nm y).cls = some m.cls ∧ (∀ w ∈ am_ws, w.before args s = true) ∧ ((am_nm y).name = "<init>" → meth.name = "<init>") ∧ am_K D s
def am_Ok (p : Program) (l : Launch) (e : Env) (R : Room) (s : State) (m : MethodId) (args : Array Value) (below : List Frame) (meth : Method) (c : Code) (Q : State → Prop) (D : va_G) (base y pc : Nat) (lo st : List am_V) (M : am_M) (cells slots : Nat) : Prop :=
  ∀ (H : Heap) (locs : List Loc) (ls : Array Slot), am_Rep D s base M H → am_lo ls lo (am_mx y) → am_wt M lo → am_wt M st → (∀ q ∈ locs, base ≤ q.base) → W p l e R s m args below meth c H locs cells slots Q (F0 m pc ls (st.map am_v))
end SND1

section SND2
variable {p : Program} {l : Launch} {e : Env} {R : Room} {s : State} {m : MethodId} {args : Array Value} {below : List Frame} {meth : Method} {c : Code} {H : Heap} {locs : List Loc} {cells slots : Nat} {Q : State → Prop} {D : va_G} {base y pc : Nat} {lo st : List am_V} {M : am_M}
theorem am_s1 (C : am_At p s m args meth c D y) {k4 : Fin 4} {v : Int32} (hd : decode (am_cd y) pc = .ok (.iload_n k4, 1)) (hl : lo[(k4 : Nat)]? = some (.inl v)) (k : am_Ok p l e R s m args below meth c Q D base y (pc + 1) lo (.inl v :: st) M cells slots) : am_Ok p l e R s m args below meth c Q D base y pc lo st M cells slots := by
  intro H locs ls hR hL hwl hws hf
  exact lv_iload_n C.1 C.2.1 hd rfl (hL.at hl (by simp)) (k H locs ls hR hL hwl (am_wt_c (am_wv_i M v) hws) hf)
theorem am_s2 (C : am_At p s m args meth c D y) {x : Nat} {v : Int32} (hd : decode (am_cd y) pc = .ok (.iload x, 2)) (hl : lo[x]? = some (.inl v)) (k : am_Ok p l e R s m args below meth c Q D base y (pc + 2) lo (.inl v :: st) M cells slots) : am_Ok p l e R s m args below meth c Q D base y pc lo st M cells slots := by
  intro H locs ls hR hL hwl hws hf
  exact lv_iload C.1 C.2.1 hd (hL.at hl (by simp)) (k H locs ls hR hL hwl (am_wt_c (am_wv_i M v) hws) hf)
theorem am_s3 (C : am_At p s m args meth c D y) {k4 : Fin 4} {q : Nat × Option Nat} (hd : decode (am_cd y) pc = .ok (.aload_n k4, 1)) (hl : lo[(k4 : Nat)]? = some (.inr (.inl q))) (k : am_Ok p l e R s m args below meth c Q D base y (pc + 1) lo (.inr (.inl q) :: st) M cells slots) : am_Ok p l e R s m args below meth c Q D base y pc lo st M cells slots := by
  intro H locs ls hR hL hwl hws hf
  have h1 := hL.at hl (by simp)
  have h2 := k H locs ls hR hL hwl (am_wt_c (am_wt_at hwl hl) hws) hf
  obtain ⟨t, o⟩ := q
  cases o with
  | none => exact lv_aload_nN C.1 C.2.1 hd rfl h1 h2
  | some a => exact lv_aload_n C.1 C.2.1 hd rfl h1 h2
theorem am_s4 (C : am_At p s m args meth c D y) {x : Nat} {q : Nat × Option Nat} (hd : decode (am_cd y) pc = .ok (.aload x, 2)) (hl : lo[x]? = some (.inr (.inl q))) (k : am_Ok p l e R s m args below meth c Q D base y (pc + 2) lo (.inr (.inl q) :: st) M cells slots) : am_Ok p l e R s m args below meth c Q D base y pc lo st M cells slots := by
  intro H locs ls hR hL hwl hws hf
  have h1 := hL.at hl (by simp)
  have h2 := k H locs ls hR hL hwl (am_wt_c (am_wt_at hwl hl) hws) hf
  obtain ⟨t, o⟩ := q
  cases o with
  | none => exact lv_aloadN C.1 C.2.1 hd h1 h2
  | some a => exact lv_aload C.1 C.2.1 hd h1 h2
theorem am_s5 (C : am_At p s m args meth c D y) {k4 : Fin 4} {v : Int32} (hd : decode (am_cd y) pc = .ok (.istore_n k4, 1)) (hx : (k4 : Nat) < lo.length) (k : am_Ok p l e R s m args below meth c Q D base y (pc + 1) (lo.set (k4 : Nat) (.inl v)) st M cells slots) : am_Ok p l e R s m args below meth c Q D base y pc lo (.inl v :: st) M cells slots := by
  intro H locs ls hR hL hwl hws hf
  exact lv_istore_n C.1 C.2.1 hd rfl hL.has (by rw [← hL.2.2.1]; exact hx) rfl (fun ls' h' => k H locs ls' hR (hL.set (v := .inl v) h') (am_wt_set hwl (am_wv_i M v)) (am_wt_t hws) hf)
theorem am_s6 (C : am_At p s m args meth c D y) {x : Nat} {v : Int32} (hd : decode (am_cd y) pc = .ok (.istore x, 2)) (hx : x < lo.length) (k : am_Ok p l e R s m args below meth c Q D base y (pc + 2) (lo.set x (.inl v)) st M cells slots) : am_Ok p l e R s m args below meth c Q D base y pc lo (.inl v :: st) M cells slots := by
  intro H locs ls hR hL hwl hws hf
  exact lv_istore C.1 C.2.1 hd hL.has (by rw [← hL.2.2.1]; exact hx) rfl (fun ls' h' => k H locs ls' hR (hL.set (v := .inl v) h') (am_wt_set hwl (am_wv_i M v)) (am_wt_t hws) hf)
theorem am_s7 (C : am_At p s m args meth c D y) {k4 : Fin 4} {q : Nat × Option Nat} (hd : decode (am_cd y) pc = .ok (.astore_n k4, 1)) (hx : (k4 : Nat) < lo.length) (k : am_Ok p l e R s m args below meth c Q D base y (pc + 1) (lo.set (k4 : Nat) (.inr (.inl q))) st M cells slots) : am_Ok p l e R s m args below meth c Q D base y pc lo (.inr (.inl q) :: st) M cells slots := by
  intro H locs ls hR hL hwl hws hf
  obtain ⟨t, o⟩ := q
  cases o with
  | none => exact lv_astore_nN C.1 C.2.1 hd rfl hL.has (by rw [← hL.2.2.1]; exact hx) rfl (fun ls' h' => k H locs ls' hR (hL.set (v := .inr (.inl (t, none))) h') (am_wt_set hwl (am_wt_h hws)) (am_wt_t hws) hf)
  | some a => exact lv_astore_n C.1 C.2.1 hd rfl hL.has (by rw [← hL.2.2.1]; exact hx) rfl (fun ls' h' => k H locs ls' hR (hL.set (v := .inr (.inl (t, some a))) h') (am_wt_set hwl (am_wt_h hws)) (am_wt_t hws) hf)
theorem am_s8 (C : am_At p s m args meth c D y) {x : Nat} {q : Nat × Option Nat} (hd : decode (am_cd y) pc = .ok (.astore x, 2)) (hx : x < lo.length) (k : am_Ok p l e R s m args below meth c Q D base y (pc + 2) (lo.set x (.inr (.inl q))) st M cells slots) : am_Ok p l e R s m args below meth c Q D base y pc lo (.inr (.inl q) :: st) M cells slots := by
  intro H locs ls hR hL hwl hws hf
  obtain ⟨t, o⟩ := q
  cases o with
  | none => exact lv_astoreN C.1 C.2.1 hd hL.has (by rw [← hL.2.2.1]; exact hx) rfl (fun ls' h' => k H locs ls' hR (hL.set (v := .inr (.inl (t, none))) h') (am_wt_set hwl (am_wt_h hws)) (am_wt_t hws) hf)
  | some a => exact lv_astore C.1 C.2.1 hd hL.has (by rw [← hL.2.2.1]; exact hx) rfl (fun ls' h' => k H locs ls' hR (hL.set (v := .inr (.inl (t, some a))) h') (am_wt_set hwl (am_wt_h hws)) (am_wt_t hws) hf)
theorem am_s9 (C : am_At p s m args meth c D y) {x : Nat} {d : Int} {v : Int32} (hd : decode (am_cd y) pc = .ok (.iinc x d, 3)) (hl : lo[x]? = some (.inl v)) (k : am_Ok p l e R s m args below meth c Q D base y (pc + 3) (lo.set x (.inl (v + Int32.ofInt d))) st M cells slots) : am_Ok p l e R s m args below meth c Q D base y pc lo st M cells slots := by
  intro H locs ls hR hL hwl hws hf
  obtain ⟨j, hj⟩ := List.getElem?_of_mem (am_kl_mem hl (by simp))
  exact lv_iinc C.1 C.2.1 hd hL.has hj rfl (by rw [← hL.2.2.1]; exact (List.getElem?_eq_some_iff.mp hl).1) rfl (fun ls' h' => k H locs ls' hR (hL.set (v := .inl (v + Int32.ofInt d)) h') (am_wt_set hwl (am_wv_i M _)) hws hf)
theorem am_s10 (C : am_At p s m args meth c D y) {d : Int} (hd : decode (am_cd y) pc = .ok (.iconst d, 1)) (k : am_Ok p l e R s m args below meth c Q D base y (pc + 1) lo (.inl (Int32.ofInt d) :: st) M cells slots) : am_Ok p l e R s m args below meth c Q D base y pc lo st M cells slots := by
  intro H locs ls hR hL hwl hws hf
  exact lv_iconst C.1 C.2.1 hd rfl (k H locs ls hR hL hwl (am_wt_c (am_wv_i M _) hws) hf)
theorem am_s11 (C : am_At p s m args meth c D y) {d : Int} (hd : decode (am_cd y) pc = .ok (.bipush d, 2)) (k : am_Ok p l e R s m args below meth c Q D base y (pc + 2) lo (.inl (Int8.ofInt d).toInt32 :: st) M cells slots) : am_Ok p l e R s m args below meth c Q D base y pc lo st M cells slots := by
  intro H locs ls hR hL hwl hws hf
  exact lv_bipush C.1 C.2.1 hd rfl (k H locs ls hR hL hwl (am_wt_c (am_wv_i M _) hws) hf)
theorem am_s13 (C : am_At p s m args meth c D y) {v w : Int32} (hd : decode (am_cd y) pc = .ok (.iadd, 1)) (k : am_Ok p l e R s m args below meth c Q D base y (pc + 1) lo (.inl (v + w) :: st) M cells slots) : am_Ok p l e R s m args below meth c Q D base y pc lo (.inl w :: .inl v :: st) M cells slots := by
  intro H locs ls hR hL hwl hws hf
  exact lv_iadd C.1 C.2.1 hd (k H locs ls hR hL hwl (am_wt_c (am_wv_i M _) (am_wt_t (am_wt_t hws))) hf)
theorem am_s14 (C : am_At p s m args meth c D y) {v w : Int32} (hd : decode (am_cd y) pc = .ok (.isub, 1)) (k : am_Ok p l e R s m args below meth c Q D base y (pc + 1) lo (.inl (v - w) :: st) M cells slots) : am_Ok p l e R s m args below meth c Q D base y pc lo (.inl w :: .inl v :: st) M cells slots := by
  intro H locs ls hR hL hwl hws hf
  exact lv_isub C.1 C.2.1 hd (k H locs ls hR hL hwl (am_wt_c (am_wv_i M _) (am_wt_t (am_wt_t hws))) hf)
theorem am_s15 (C : am_At p s m args meth c D y) {v w : Int32} (hd : decode (am_cd y) pc = .ok (.imul, 1)) (k : am_Ok p l e R s m args below meth c Q D base y (pc + 1) lo (.inl (v * w) :: st) M cells slots) : am_Ok p l e R s m args below meth c Q D base y pc lo (.inl w :: .inl v :: st) M cells slots := by
  intro H locs ls hR hL hwl hws hf
  exact lv_imul C.1 C.2.1 hd (k H locs ls hR hL hwl (am_wt_c (am_wv_i M _) (am_wt_t (am_wt_t hws))) hf)
theorem am_s16 (C : am_At p s m args meth c D y) {v w : Int32} (hd : decode (am_cd y) pc = .ok (.irem, 1)) (hne : ¬ w = 0) (k : am_Ok p l e R s m args below meth c Q D base y (pc + 1) lo (.inl (v - v / w * w) :: st) M cells slots) : am_Ok p l e R s m args below meth c Q D base y pc lo (.inl w :: .inl v :: st) M cells slots := by
  intro H locs ls hR hL hwl hws hf
  exact lv_irem C.1 C.2.1 hd hne (k H locs ls hR hL hwl (am_wt_c (am_wv_i M _) (am_wt_t (am_wt_t hws))) hf)
theorem am_s17 (C : am_At p s m args meth c D y) {v w : Int32} (hd : decode (am_cd y) pc = .ok (.iand, 1)) (k : am_Ok p l e R s m args below meth c Q D base y (pc + 1) lo (.inl (v &&& w) :: st) M cells slots) : am_Ok p l e R s m args below meth c Q D base y pc lo (.inl w :: .inl v :: st) M cells slots := by
  intro H locs ls hR hL hwl hws hf
  exact lv_iand C.1 C.2.1 hd (k H locs ls hR hL hwl (am_wt_c (am_wv_i M _) (am_wt_t (am_wt_t hws))) hf)
theorem am_s18 (C : am_At p s m args meth c D y) {v w : Int32} (hd : decode (am_cd y) pc = .ok (.ixor, 1)) (k : am_Ok p l e R s m args below meth c Q D base y (pc + 1) lo (.inl (v ^^^ w) :: st) M cells slots) : am_Ok p l e R s m args below meth c Q D base y pc lo (.inl w :: .inl v :: st) M cells slots := by
  intro H locs ls hR hL hwl hws hf
  exact lv_ixor C.1 C.2.1 hd (k H locs ls hR hL hwl (am_wt_c (am_wv_i M _) (am_wt_t (am_wt_t hws))) hf)
theorem am_s19 (C : am_At p s m args meth c D y) {v w : Int32} (hd : decode (am_cd y) pc = .ok (.ishl, 1)) (k : am_Ok p l e R s m args below meth c Q D base y (pc + 1) lo (.inl (v <<< (w &&& 31)) :: st) M cells slots) : am_Ok p l e R s m args below meth c Q D base y pc lo (.inl w :: .inl v :: st) M cells slots := by
  intro H locs ls hR hL hwl hws hf
  exact lv_ishl C.1 C.2.1 hd (k H locs ls hR hL hwl (am_wt_c (am_wv_i M _) (am_wt_t (am_wt_t hws))) hf)
theorem am_s20 (C : am_At p s m args meth c D y) {v w : Int32} (hd : decode (am_cd y) pc = .ok (.ishr, 1)) (k : am_Ok p l e R s m args below meth c Q D base y (pc + 1) lo (.inl (v >>> (w &&& 31)) :: st) M cells slots) : am_Ok p l e R s m args below meth c Q D base y pc lo (.inl w :: .inl v :: st) M cells slots := by
  intro H locs ls hR hL hwl hws hf
  exact lv_ishr C.1 C.2.1 hd (k H locs ls hR hL hwl (am_wt_c (am_wv_i M _) (am_wt_t (am_wt_t hws))) hf)
theorem am_s21 (C : am_At p s m args meth c D y) {v : am_V} (hd : decode (am_cd y) pc = .ok (.dup, 1)) (k : am_Ok p l e R s m args below meth c Q D base y (pc + 1) lo (v :: v :: st) M cells slots) : am_Ok p l e R s m args below meth c Q D base y pc lo (v :: st) M cells slots := by
  intro H locs ls hR hL hwl hws hf
  exact lv_dup C.1 C.2.1 hd (am_v_cat v) (k H locs ls hR hL hwl (am_wt_c (am_wt_h hws) hws) hf)
theorem am_s22 (C : am_At p s m args meth c D y) {v w : am_V} (hd : decode (am_cd y) pc = .ok (.dup2, 1)) (k : am_Ok p l e R s m args below meth c Q D base y (pc + 1) lo (v :: w :: v :: w :: st) M cells slots) : am_Ok p l e R s m args below meth c Q D base y pc lo (v :: w :: st) M cells slots := by
  intro H locs ls hR hL hwl hws hf
  exact lv_dup2_11 C.1 C.2.1 hd (am_v_cat v) (am_v_cat w) (k H locs ls hR hL hwl (am_wt_c (am_wt_h hws) (am_wt_c (am_wt_h (am_wt_t hws)) hws)) hf)
theorem am_s24 (C : am_At p s m args meth c D y) {x : Nat} (hd : decode (am_cd y) pc = .ok (.goto ((x : Int) - (pc : Int)), 3)) (k : am_Ok p l e R s m args below meth c Q D base y x lo st M cells slots) : am_Ok p l e R s m args below meth c Q D base y pc lo st M cells slots := by
  intro H locs ls hR hL hwl hws hf
  exact lv_goto (tgt := x) C.1 C.2.1 hd (by omega) (k H locs ls hR hL hwl hws hf)
theorem am_lt_le {x y : Int32} : ¬ x < y ↔ y ≤ x := Int32.not_lt

theorem am_s25 (C : am_At p s m args meth c D y) {x kc : Nat} {v w : Int32} (hd : decode (am_cd y) pc = .ok (.ifCond (am_cd6 kc) ((x : Int) - (pc : Int)), 3)) (k : am_br kc v 0 (am_Ok p l e R s m args below meth c Q D base y x lo st M cells slots) (am_Ok p l e R s m args below meth c Q D base y (pc + 3) lo st M cells slots)) : am_Ok p l e R s m args below meth c Q D base y pc lo (.inl v :: st) M cells slots := by
  intro H locs ls hR hL hwl hws hf
  have go : ∀ {pc' : Nat}, am_Ok p l e R s m args below meth c Q D base y pc' lo st M cells slots → W p l e R s m args below meth c H locs cells slots Q (F0 m pc' ls (st.map am_v)) := fun h => h H locs ls hR hL hwl (am_wt_t hws) hf
  have ht : (pc : Int) + ((x : Int) - (pc : Int)) = (x : Int) := by omega
  match kc, hd, k with
  | 0, hd, k => exact lv_if_eq C.1 C.2.1 hd ht (fun h => go (by rw [am_br, if_pos h] at k; exact k)) (fun h => go (by rw [am_br, if_neg h] at k; exact k))
  | 1, hd, k => exact lv_if_ne C.1 C.2.1 hd ht (fun h => go (by rw [am_br, if_neg h] at k; exact k)) (fun h => go (by rw [am_br, if_pos h] at k; exact k))
  | 2, hd, k => exact lv_if_lt C.1 C.2.1 hd ht (fun h => go (by rw [am_br, if_pos h] at k; exact k)) (fun h => go (by rw [am_br, if_neg h] at k; exact k))
  | 3, hd, k => exact lv_if_ge C.1 C.2.1 hd ht (fun h => go (by rw [am_br, if_neg (am_lt_le.mpr h)] at k; exact k)) (fun h => go (by rw [am_br, if_pos (Int32.not_le.mp h)] at k; exact k))
  | 4, hd, k => exact lv_if_gt C.1 C.2.1 hd ht (fun h => go (by rw [am_br, if_pos h] at k; exact k)) (fun h => go (by rw [am_br, if_neg h] at k; exact k))
  | kc + 5, hd, k =>
    have k3 : (if 0 < v then (am_Ok p l e R s m args below meth c Q D base y (pc + 3) lo st M cells slots) else (am_Ok p l e R s m args below meth c Q D base y x lo st M cells slots)) := k
    exact lv_if_le C.1 C.2.1 hd ht (fun h => go (by rw [if_neg (am_lt_le.mpr h)] at k3; exact k3)) (fun h => go (by rw [if_pos (Int32.not_le.mp h)] at k3; exact k3))
theorem am_s26 (C : am_At p s m args meth c D y) {x kc : Nat} {v w : Int32} (hd : decode (am_cd y) pc = .ok (.if_icmp (am_cd6 kc) ((x : Int) - (pc : Int)), 3)) (k : am_br kc v w (am_Ok p l e R s m args below meth c Q D base y x lo st M cells slots) (am_Ok p l e R s m args below meth c Q D base y (pc + 3) lo st M cells slots)) : am_Ok p l e R s m args below meth c Q D base y pc lo (.inl w :: .inl v :: st) M cells slots := by
  intro H locs ls hR hL hwl hws hf
  have go : ∀ {pc' : Nat}, am_Ok p l e R s m args below meth c Q D base y pc' lo st M cells slots → W p l e R s m args below meth c H locs cells slots Q (F0 m pc' ls (st.map am_v)) := fun h => h H locs ls hR hL hwl (am_wt_t (am_wt_t hws)) hf
  have ht : (pc : Int) + ((x : Int) - (pc : Int)) = (x : Int) := by omega
  match kc, hd, k with
  | 0, hd, k => exact lv_icmp_eq C.1 C.2.1 hd ht (fun h => go (by rw [am_br, if_pos h] at k; exact k)) (fun h => go (by rw [am_br, if_neg h] at k; exact k))
  | 1, hd, k => exact lv_icmp_ne C.1 C.2.1 hd ht (fun h => go (by rw [am_br, if_neg h] at k; exact k)) (fun h => go (by rw [am_br, if_pos h] at k; exact k))
  | 2, hd, k => exact lv_icmp_lt C.1 C.2.1 hd ht (fun h => go (by rw [am_br, if_pos h] at k; exact k)) (fun h => go (by rw [am_br, if_neg h] at k; exact k))
  | 3, hd, k => exact lv_icmp_ge C.1 C.2.1 hd ht (fun h => go (by rw [am_br, if_neg (am_lt_le.mpr h)] at k; exact k)) (fun h => go (by rw [am_br, if_pos (Int32.not_le.mp h)] at k; exact k))
  | 4, hd, k => exact lv_icmp_gt C.1 C.2.1 hd ht (fun h => go (by rw [am_br, if_pos h] at k; exact k)) (fun h => go (by rw [am_br, if_neg h] at k; exact k))
  | kc + 5, hd, k =>
    have k3 : (if w < v then (am_Ok p l e R s m args below meth c Q D base y (pc + 3) lo st M cells slots) else (am_Ok p l e R s m args below meth c Q D base y x lo st M cells slots)) := k
    exact lv_icmp_le C.1 C.2.1 hd ht (fun h => go (by rw [if_neg (am_lt_le.mpr h)] at k3; exact k3)) (fun h => go (by rw [if_pos (Int32.not_le.mp h)] at k3; exact k3))
theorem am_s27 (C : am_At p s m args meth c D y) {x : Nat} {q1 q2 : Nat × Option Nat} (hd : decode (am_cd y) pc = .ok (.if_acmp .eq ((x : Int) - (pc : Int)), 3)) (k1 : q1.2 = q2.2 → am_Ok p l e R s m args below meth c Q D base y x lo st M cells slots) (k2 : ¬ q1.2 = q2.2 → am_Ok p l e R s m args below meth c Q D base y (pc + 3) lo st M cells slots) : am_Ok p l e R s m args below meth c Q D base y pc lo (.inr (.inl q2) :: .inr (.inl q1) :: st) M cells slots := by
  intro H locs ls hR hL hwl hws hf
  have go : ∀ {pc' : Nat}, am_Ok p l e R s m args below meth c Q D base y pc' lo st M cells slots → W p l e R s m args below meth c H locs cells slots Q (F0 m pc' ls (st.map am_v)) := fun h => h H locs ls hR hL hwl (am_wt_t (am_wt_t hws)) hf
  exact lv_acmp_eq (tgt := x) C.1 C.2.1 hd (by omega) (fun h => go (k1 h)) (fun h => go (k2 h))
theorem am_s28 (C : am_At p s m args meth c D y) {x : Nat} {q1 q2 : Nat × Option Nat} (hd : decode (am_cd y) pc = .ok (.if_acmp .ne ((x : Int) - (pc : Int)), 3)) (k1 : q1.2 = q2.2 → am_Ok p l e R s m args below meth c Q D base y (pc + 3) lo st M cells slots) (k2 : ¬ q1.2 = q2.2 → am_Ok p l e R s m args below meth c Q D base y x lo st M cells slots) : am_Ok p l e R s m args below meth c Q D base y pc lo (.inr (.inl q2) :: .inr (.inl q1) :: st) M cells slots := by
  intro H locs ls hR hL hwl hws hf
  have go : ∀ {pc' : Nat}, am_Ok p l e R s m args below meth c Q D base y pc' lo st M cells slots → W p l e R s m args below meth c H locs cells slots Q (F0 m pc' ls (st.map am_v)) := fun h => h H locs ls hR hL hwl (am_wt_t (am_wt_t hws)) hf
  exact lv_acmp_ne (tgt := x) C.1 C.2.1 hd (by omega) (fun h => go (k2 h)) (fun h => go (k1 h))
theorem am_s29 (C : am_At p s m args meth c D y) {x : Nat} {q : Nat × Option Nat} (hd : decode (am_cd y) pc = .ok (.ifnull ((x : Int) - (pc : Int)), 3)) (k1 : q.2 = none → am_Ok p l e R s m args below meth c Q D base y x lo st M cells slots) (k2 : ¬ q.2 = none → am_Ok p l e R s m args below meth c Q D base y (pc + 3) lo st M cells slots) : am_Ok p l e R s m args below meth c Q D base y pc lo (.inr (.inl q) :: st) M cells slots := by
  intro H locs ls hR hL hwl hws hf
  have go : ∀ {pc' : Nat}, am_Ok p l e R s m args below meth c Q D base y pc' lo st M cells slots → W p l e R s m args below meth c H locs cells slots Q (F0 m pc' ls (st.map am_v)) := fun h => h H locs ls hR hL hwl (am_wt_t hws) hf
  obtain ⟨t, o⟩ := q
  cases o with
  | none => exact lv_ifnullN (tgt := x) C.1 C.2.1 hd (by omega) (go (k1 rfl))
  | some a => exact lv_ifnull C.1 C.2.1 hd (go (k2 (by simp)))
theorem am_s30 (C : am_At p s m args meth c D y) {x : Nat} {q : Nat × Option Nat} (hd : decode (am_cd y) pc = .ok (.ifnonnull ((x : Int) - (pc : Int)), 3)) (k1 : q.2 = none → am_Ok p l e R s m args below meth c Q D base y (pc + 3) lo st M cells slots) (k2 : ¬ q.2 = none → am_Ok p l e R s m args below meth c Q D base y x lo st M cells slots) : am_Ok p l e R s m args below meth c Q D base y pc lo (.inr (.inl q) :: st) M cells slots := by
  intro H locs ls hR hL hwl hws hf
  have go : ∀ {pc' : Nat}, am_Ok p l e R s m args below meth c Q D base y pc' lo st M cells slots → W p l e R s m args below meth c H locs cells slots Q (F0 m pc' ls (st.map am_v)) := fun h => h H locs ls hR hL hwl (am_wt_t hws) hf
  obtain ⟨t, o⟩ := q
  cases o with
  | none => exact lv_ifnonnullN C.1 C.2.1 hd (go (k1 rfl))
  | some a => exact lv_ifnonnull (tgt := x) C.1 C.2.1 hd (by omega) (go (k2 (by simp)))
theorem am_s31 (C : am_At p s m args meth c D y) {x : Nat} (hd : decode (am_cd y) pc = .ok (.aconst_null, 1)) (k : am_Ok p l e R s m args below meth c Q D base y (pc + 1) lo (.inr (.inl (x, none)) :: st) M cells slots) : am_Ok p l e R s m args below meth c Q D base y pc lo st M cells slots := by
  intro H locs ls hR hL hwl hws hf
  exact lv_null C.1 C.2.1 hd (k H locs ls hR hL hwl (am_wt_c (am_wv_n M x) hws) hf)
theorem am_arr {D : va_G} {s : State} {base : Nat} {M : am_M} {H : Heap} {t a : Nat} (hR : am_Rep D s base M H) (hv : am_wv M (.inr (.inl (t, some a)))) (h0 : am_ak t ≠ 0) (h4 : am_ak t ≠ 4) : base ≤ a ∧ am_tg M a = t ∧ ∃ cA : ClassId, H[a]? = some (arrV cA (am_ln t (am_L M)) (am_ev M t a)) ∧ ArrOfT s cA (am_ty t) ∧ va_RA s cA (am_ty t) := by
  have h1 := hv t a rfl
  have h2 := hR.2.2.1 a (by rw [h1.1]; exact h1.2)
  rw [h1.1] at h2
  refine ⟨h2.1 h4, h1.1, ?_⟩
  have h3 := h2.2
  unfold am_cell at h3
  rw [if_neg h0, if_neg h4] at h3
  exact h3
theorem am_scr {D : va_G} {s : State} {base : Nat} {M : am_M} {H : Heap} {t a : Nat} (hR : am_Rep D s base M H) (hv : am_wv M (.inr (.inl (t, some a)))) (h4 : am_ak t = 4) : ∃ scr : Cell, H[a]? = some scr ∧ s.isArrayOf scr .int ∧ scr.vm ≠ .unknown ∧ scr.slots.size = am_L M ∧ ∀ j : Nat, j < am_L M → scr.slots[j]? = some (.int (am_mi M a j)) := by
  have h1 := hv t a rfl
  have h2 := hR.2.2.1 a (by rw [h1.1]; exact h1.2)
  rw [h1.1] at h2
  have h3 := h2.2
  unfold am_cell at h3
  rw [if_neg (by rw [h4]; decide), if_pos h4] at h3
  exact h3
theorem am_obj {D : va_G} {s : State} {base : Nat} {M : am_M} {H : Heap} {t a : Nat} (hR : am_Rep D s base M H) (hv : am_wv M (.inr (.inl (t, some a)))) (h0 : am_ak t = 0) : base ≤ a ∧ am_tg M a = t ∧ ∃ r : vw_C, am_cl[am_ci t]? = some r ∧ t_OB a (D.1 (am_ci t)) r.2.2 (D.2 (am_ci t)) H (am_fv M t a) := by
  have h1 := hv t a rfl
  have h2 := hR.2.2.1 a (by rw [h1.1]; exact h1.2)
  rw [h1.1] at h2
  refine ⟨h2.1 (by rw [h0]; decide), h1.1, ?_⟩
  have h3 := h2.2
  unfold am_cell at h3
  rw [if_pos h0] at h3
  exact h3
theorem am_s32 (C : am_At p s m args meth c D y) {t a : Nat} (hd : decode (am_cd y) pc = .ok (.arraylength, 1)) (h0 : am_ak t ≠ 0) (k : am_Ok p l e R s m args below meth c Q D base y (pc + 1) lo (.inl (nI (am_ln t (am_L M))) :: st) M cells slots) : am_Ok p l e R s m args below meth c Q D base y pc lo (.inr (.inl (t, some a)) :: st) M cells slots := by
  intro H locs ls hR hL hwl hws hf
  have h2 := k H locs ls hR hL hwl (am_wt_c (am_wv_i M _) (am_wt_t hws)) hf
  by_cases h4 : am_ak t = 4
  · obtain ⟨scr, g1, g2, g3, g4, g5⟩ := am_scr hR (am_wt_h hws) h4
    exact W.alen C.1 C.2.1 g1 g2 (by rw [g4, am_ln4 h4]; rfl) rfl rfl hd h2
  · obtain ⟨-, -, cA, g1, g2, g3⟩ := am_arr hR (am_wt_h hws) h0 h4
    exact W.alen C.1 C.2.1 g1 (g2 _ _) (by rw [arrV_size]; rfl) rfl rfl hd h2
theorem am_s33 (C : am_At p s m args meth c D y) {t a : Nat} {j : Int32} (hd : decode (am_cd y) pc = .ok (.iaload, 1)) (ht : am_ak t = 1 ∨ am_ak t = 4) (hj : am_ok j (am_ln t (am_L M)) = true) (k : am_Ok p l e R s m args below meth c Q D base y (pc + 1) lo (.inl (am_mi M a j.toNatClampNeg) :: st) M cells slots) : am_Ok p l e R s m args below meth c Q D base y pc lo (.inl j :: .inr (.inl (t, some a)) :: st) M cells slots := by
  intro H locs ls hR hL hwl hws hf
  have h2 := k H locs ls hR hL hwl (am_wt_c (am_wv_i M _) (am_wt_t (am_wt_t hws))) hf
  rcases ht with h1 | h4
  · obtain ⟨-, -, cA, g1, g2, g3⟩ := am_arr hR (am_wt_h (am_wt_t hws)) (by rw [h1]; decide) (by rw [h1]; decide)
    rw [am_ty1 h1] at g2
    exact W.iald (v := .int (am_mi M a j.toNatClampNeg)) C.1 C.2.1 g1 (g2 _ _) (fun q => by cases q) (by rw [arrV_size]; exact am_ok_in hj) (by rw [arrV_read _ _ (am_ok_lt hj)]; simp [am_ev, h1]) rfl rfl hd h2
  · obtain ⟨scr, g1, g2, g3, g4, g5⟩ := am_scr hR (am_wt_h (am_wt_t hws)) h4
    rw [am_ln4 h4] at hj
    exact W.iald (v := .int (am_mi M a j.toNatClampNeg)) C.1 C.2.1 g1 g2 g3 (by rw [g4]; exact am_ok_in hj) (g5 _ (am_ok_lt hj)) rfl rfl hd h2
theorem am_s35 (C : am_At p s m args meth c D y) {t a : Nat} {j : Int32} (hd : decode (am_cd y) pc = .ok (.baload, 1)) (ht : am_ak t = 2) (hj : am_ok j (am_ln t (am_L M)) = true) (k : am_Ok p l e R s m args below meth c Q D base y (pc + 1) lo (.inl (am_mi M a j.toNatClampNeg) :: st) M cells slots) : am_Ok p l e R s m args below meth c Q D base y pc lo (.inl j :: .inr (.inl (t, some a)) :: st) M cells slots := by
  intro H locs ls hR hL hwl hws hf
  have h2 := k H locs ls hR hL hwl (am_wt_c (am_wv_i M _) (am_wt_t (am_wt_t hws))) hf
  obtain ⟨-, -, cA, g1, g2, g3⟩ := am_arr hR (am_wt_h (am_wt_t hws)) (by rw [ht]; decide) (by rw [ht]; decide)
  rw [am_ty2 ht] at g2
  exact W.zald (v := .int (am_mi M a j.toNatClampNeg)) C.1 C.2.1 g1 (g2 _ _) (fun q => by cases q) (by rw [arrV_size]; exact am_ok_in hj) (by rw [arrV_read _ _ (am_ok_lt hj)]; simp [am_ev, ht]) rfl rfl hd h2
theorem am_s37 (C : am_At p s m args meth c D y) {t a : Nat} {j : Int32} (hd : decode (am_cd y) pc = .ok (.aaload, 1)) (ht : am_ak t = 3) (hj : am_ok j (am_ln t (am_L M)) = true) (k : am_Ok p l e R s m args below meth c Q D base y (pc + 1) lo (.inr (.inl (am_fr t 0, am_mr M a j.toNatClampNeg)) :: st) M cells slots) : am_Ok p l e R s m args below meth c Q D base y pc lo (.inl j :: .inr (.inl (t, some a)) :: st) M cells slots := by
  intro H locs ls hR hL hwl hws hf
  obtain ⟨hb, htg, cA, g1, g2, g3⟩ := am_arr hR (am_wt_h (am_wt_t hws)) (by rw [ht]; decide) (by rw [ht]; decide)
  have hv : am_wv M (.inr (.inl (am_fr t 0, am_mr M a j.toNatClampNeg))) := fun t' b' q => by
    have q1 := (Prod.mk.inj (Sum.inl.inj (Sum.inr.inj q)))
    have h5 := hR.2.2.2 a j.toNatClampNeg b' q1.2
    rw [htg, am_fr3 ht j.toNatClampNeg] at h5
    rw [← q1.1]
    exact ⟨h5.1, by rw [← h5.1]; exact h5.2⟩
  have h2 := k H locs ls hR hL hwl (am_wt_c hv (am_wt_t (am_wt_t hws))) hf
  obtain ⟨C0, hC0⟩ := am_ty3 ht
  rw [hC0] at g2
  exact W.aald (v := va_rf (am_mr M a j.toNatClampNeg)) (ty := .object C0) C.1 C.2.1 g1 (g2 _ _) rfl (fun q => by cases q) (by rw [arrV_size]; exact am_ok_in hj) (by rw [arrV_read _ _ (am_ok_lt hj)]; simp [am_ev, ht]) rfl rfl hd h2
theorem am_ev_si {M : am_M} {t a k : Nat} {x : Int32} (h : am_ak t ≠ 3) : updV (am_ev M t a) k (.int x) = am_ev (am_si M a k x) t a := by
  funext j
  by_cases hj : j = k
  · subst hj; simp [updV, am_ev, h, am_mi, am_si]
  · simp [updV, am_ev, h, am_mi, am_si, hj]
theorem am_ev_sr {M : am_M} {t a k : Nat} {o : Option Nat} (h : am_ak t = 3) : updV (am_ev M t a) k (va_rf o) = am_ev (am_sr M a k o) t a := by
  funext j
  by_cases hj : j = k
  · subst hj; simp [updV, am_ev, h, am_mr, am_sr]
  · simp [updV, am_ev, h, am_mr, am_sr, hj]
theorem am_si_o {M : am_M} {a k : Nat} {x : Int32} : ∀ b, b ≠ a → ∀ j, am_mi (am_si M a k x) b j = am_mi M b j := fun b hb j => by simp [am_mi, am_si, hb]
theorem am_sr_o {M : am_M} {a k : Nat} {x : Option Nat} : ∀ b, b ≠ a → ∀ j, am_mr (am_sr M a k x) b j = am_mr M b j := fun b hb j => by simp [am_mr, am_sr, hb]
theorem am_free {locs : List Loc} {base a k : Nat} (hf : ∀ q ∈ locs, base ≤ q.base) (ha : base ≤ a) : ∀ q ∈ locs ++ [(⟨a, k⟩ : Loc)], base ≤ q.base := fun q hq => by
  rcases List.mem_append.mp hq with h | h
  · exact hf q h
  · rw [List.mem_singleton.mp h]; exact ha
theorem am_s34 (C : am_At p s m args meth c D y) {t a : Nat} {v j : Int32} (hd : decode (am_cd y) pc = .ok (.iastore, 1)) (ht : am_ak t = 1) (hj : am_ok j (am_ln t (am_L M)) = true) (k : am_Ok p l e R s m args below meth c Q D base y (pc + 1) lo st (am_si M a j.toNatClampNeg v) cells slots) : am_Ok p l e R s m args below meth c Q D base y pc lo (.inl v :: .inl j :: .inr (.inl (t, some a)) :: st) M cells slots := by
  intro H locs ls hR hL hwl hws hf
  obtain ⟨hb, htg, cA, g1, g2, g3⟩ := am_arr hR (am_wt_h (am_wt_t (am_wt_t hws))) (by rw [ht]; decide) (by rw [ht]; decide)
  refine W.iast C.1 C.2.1 g1 (by have g4 := g2; rw [am_ty1 ht] at g4; exact g4 _ _) (fun q => by cases q) (by rw [arrV_size]; exact am_ok_in hj) rfl rfl hd fun H1 e1 z1 oq => ?_
  refine k H1 _ ls (hR.set (a := a) z1 oq rfl rfl rfl am_si_o (fun _ _ _ => rfl) ?_ (am_wm_si hR.2.2.2)) hL hwl (am_wt_t (am_wt_t (am_wt_t hws))) (am_free hf hb)
  rw [htg]
  unfold am_cell
  rw [if_neg (by rw [ht]; decide), if_neg (by rw [ht]; decide)]
  exact ⟨cA, by rw [e1, arrV_store, am_ev_si (by rw [ht]; decide)]; rfl, g2, g3⟩
theorem am_s36 (C : am_At p s m args meth c D y) {t a : Nat} {v j : Int32} (hd : decode (am_cd y) pc = .ok (.bastore, 1)) (hv : v = 0 ∨ v = 1) (ht : am_ak t = 2) (hj : am_ok j (am_ln t (am_L M)) = true) (k : am_Ok p l e R s m args below meth c Q D base y (pc + 1) lo st (am_si M a j.toNatClampNeg v) cells slots) : am_Ok p l e R s m args below meth c Q D base y pc lo (.inl v :: .inl j :: .inr (.inl (t, some a)) :: st) M cells slots := by
  intro H locs ls hR hL hwl hws hf
  obtain ⟨hb, htg, cA, g1, g2, g3⟩ := am_arr hR (am_wt_h (am_wt_t (am_wt_t hws))) (by rw [ht]; decide) (by rw [ht]; decide)
  have hnv : narrow .boolean (.int v) = .int v := by rcases hv with rfl | rfl <;> rfl
  refine W.zast C.1 C.2.1 g1 (by have g4 := g2; rw [am_ty2 ht] at g4; exact g4 _ _) (fun q => by cases q) (by rw [arrV_size]; exact am_ok_in hj) rfl rfl hd fun H1 e1 z1 oq => ?_
  rw [hnv] at e1
  refine k H1 _ ls (hR.set (a := a) z1 oq rfl rfl rfl am_si_o (fun _ _ _ => rfl) ?_ (am_wm_si hR.2.2.2)) hL hwl (am_wt_t (am_wt_t (am_wt_t hws))) (am_free hf hb)
  rw [htg]
  unfold am_cell
  rw [if_neg (by rw [ht]; decide), if_neg (by rw [ht]; decide)]
  exact ⟨cA, by rw [e1, arrV_store, am_ev_si (by rw [ht]; decide)]; rfl, g2, g3⟩
theorem am_s38 (C : am_At p s m args meth c D y) {t a : Nat} {o : Option Nat} {j : Int32} (hd : decode (am_cd y) pc = .ok (.aastore, 1)) (ht : am_ak t = 3) (hj : am_ok j (am_ln t (am_L M)) = true) (k : am_Ok p l e R s m args below meth c Q D base y (pc + 1) lo st (am_sr M a j.toNatClampNeg o) cells slots) : am_Ok p l e R s m args below meth c Q D base y pc lo (.inr (.inl (am_fr t 0, o)) :: .inl j :: .inr (.inl (t, some a)) :: st) M cells slots := by
  intro H locs ls hR hL hwl hws hf
  obtain ⟨hb, htg, cA, g1, g2, g3⟩ := am_arr hR (am_wt_h (am_wt_t (am_wt_t hws))) (by rw [ht]; decide) (by rw [ht]; decide)
  have hwv := am_wt_h hws
  have fin : ∀ (H1 : Heap) (x : Value), x = va_rf o → H1[a]? = some ((arrV cA (am_ln t (am_L M)) (am_ev M t a)).setSlot j.toNatClampNeg x) → H1.size = H.size → (∀ q, q ≠ a → H1[q]? = H[q]?) → W p l e R s m args below meth c H1 (locs ++ [⟨a, j.toNatClampNeg⟩]) cells slots Q (F0 m (pc + 1) ls (st.map am_v)) := by
    intro H1 x hx e1 z1 oq
    subst hx
    refine k H1 _ ls (hR.set (a := a) z1 oq rfl rfl rfl (fun _ _ _ => rfl) am_sr_o ?_ (am_wm_sr hR.2.2.2 (fun b hb2 => ?_))) hL hwl (am_wt_t (am_wt_t (am_wt_t hws))) (am_free hf hb)
    · rw [htg]
      unfold am_cell
      rw [if_neg (by rw [ht]; decide), if_neg (by rw [ht]; decide)]
      exact ⟨cA, by rw [e1, arrV_store, am_ev_sr ht]; rfl, g2, g3⟩
    · subst hb2
      have h7 := hwv (am_fr t 0) b rfl
      rw [htg, am_fr3 ht j.toNatClampNeg, h7.1]
      exact ⟨rfl, h7.2⟩
  have hj2 := am_ok_in hj
  cases o with
  | none =>
    obtain ⟨C0, hC0⟩ := am_ty3 ht
    exact va_WaastN (C := C0) C.1 C.2.1 g1 (by have g4 := g2; rw [hC0] at g4; exact g4 _ _) (fun q => by cases q) (by rw [arrV_size]; exact hj2) rfl rfl hd fun H1 e1 z1 oq => fin H1 _ rfl e1 z1 oq
  | some b =>
    have h7 := hwv (am_fr t 0) b rfl
    obtain ⟨h8, h9⟩ := am_fr3o ht
    obtain ⟨-, -, r, q1, cellV, q2, q3, q4, -⟩ := am_obj hR hwv h8
    obtain ⟨hKn, hcls⟩ := C.2.2.2.2.2.2.1.1 _ _ q1
    have g4 := g3
    rw [h9 r q1] at g4
    obtain ⟨kA, comp, k1, k2, k3, -⟩ := g4
    have hcomp : comp = D.1 (am_ci (am_fr t 0)) := Option.some.inj (k3.symm.trans hcls.1)
    subst hcomp
    obtain ⟨kC, hkC, -⟩ := hcls.2
    exact W.aast C.1 C.2.1 g1 (fun q h => by cases h) (fun h => by cases h) k1 k2 rfl hkC ⟨fun h => hj2 (Or.inl h), by rw [arrV_size]; exact am_ok_lt hj⟩ q2 (fun q h => by rw [q4] at h; cases h) (by rw [q3]; exact hkC) (by rw [q3]; exact va_assign hcls) rfl rfl hd fun H1 e1 z1 oq => fin H1 _ rfl e1 z1 oq
end SND2
end
section
-- arrays made, fields, objects made
section SND3
variable {p : Program} {l : Launch} {e : Env} {R : Room} {s : State} {m : MethodId} {args : Array Value} {below : List Frame} {meth : Method} {c : Code} {H : Heap} {locs : List Loc} {cells slots : Nat} {Q : State → Prop} {D : va_G} {base y pc : Nat} {lo st : List am_V} {M : am_M}
theorem am_nI_of {n : Nat} (h : n ≤ 1000) : ¬ nI n < 0 ∧ (nI n).toNatClampNeg = n := ⟨nI_pos (by omega), nI_clamp (by omega)⟩
theorem am_wv_new {M : am_M} {x n : Nat} (h0 : x ≠ 0) : am_wv (am_al M x n) (.inr (.inl (x, some (am_sz M)))) := fun t a h => by
  cases h
  exact ⟨by simp [am_tg, am_al], h0⟩
theorem am_ev_al {M : am_M} {x n : Nat} (v : Value) (hv : v = if am_ak x = 3 then Value.null else .int 0) : (fun _ => v) = am_ev (am_al M x n) x (am_sz M) := by
  subst hv
  funext k
  by_cases h : am_ak x = 3 <;> simp [am_ev, h, am_mr, am_mi, am_al, va_rf]
theorem am_s39 (C : am_At p s m args meth c D y) {x : Nat} {at0 : ArrayType} (hd : decode (am_cd y) pc = .ok (.newarray at0, 2)) (hat : newarray.typeOf at0 = am_ty x) (hwd : Jvm.Cond.arrayClass (newarray.typeOf at0) ∈ am_ws) (h0 : x ≠ 0) (hk : am_ak x = 1 ∨ am_ak x = 2) (h1000 : am_ln x 0 ≤ 1000) (hc : cells + 1 ≤ R.cells) (hs : slots + am_ln x 0 ≤ R.slots) (k : am_Ok p l e R s m args below meth c Q D base y (pc + 2) lo (.inr (.inl (x, some (am_sz M))) :: st) (am_al M x (am_ln x 0)) (cells + 1) (slots + am_ln x 0)) : am_Ok p l e R s m args below meth c Q D base y pc lo (.inl (nI (am_ln x 0)) :: st) M cells slots := by
  intro H locs ls hR hL hwl hws hf
  have hn := am_nI_of h1000
  have hty : am_ty x = .int ∨ am_ty x = .boolean := hk.elim (fun h => Or.inl (am_ty1 h)) (fun h => Or.inr (am_ty2 h))
  have h4 : am_ak x ≠ 4 := by rcases hk with h | h <;> rw [h] <;> decide
  have h3 : am_ak x ≠ 3 := by rcases hk with h | h <;> rw [h] <;> decide
  have hz : am_ak x ≠ 0 := by rcases hk with h | h <;> rw [h] <;> decide
  refine va_newaK C.1 C.2.1 (C.2.2.2.2.1 _ hwd) rfl hd rfl hn.1 hn.2 (by rw [hat]; rcases hty with h | h <;> rw [h] <;> simp only [componentBytes] <;> omega) hc hs hR.1 fun H1 cA e1 z1 o1 hAr hNm => ?_
  refine k H1 locs ls (hR.al h0 h4 (by rw [z1, hR.1]) (fun q hq => o1 q (by rw [← hR.1]; exact hq)) ?_) hL (am_wt_to (am_al_tg hR x _) hwl) (am_wt_c (am_wv_new h0) (am_wt_to (am_al_tg hR x _) (am_wt_t hws))) hf
  unfold am_cell
  rw [if_neg hz, if_neg h4]
  rw [hat] at e1 hAr hNm
  refine ⟨cA, ?_, hAr, ?_⟩
  · rw [hR.1, e1, am_lnL (L := am_L (am_al M x (am_ln x 0))) h4]
    congr 2
    rw [← am_ev_al (n := am_ln x 0) (.int 0) (by rw [if_neg h3])]
    funext _
    rcases hty with h | h <;> rw [h] <;> rfl
  · rcases hty with h | h <;> rw [h] at hNm ⊢ <;> exact hNm
theorem am_s40 (C : am_At p s m args meth c D y) {x w : Nat} {C0 : String} (hd : decode (am_cd y) pc = .ok (.anewarray w, 3)) (hat : am_ty x = .object C0) (hcl : Jvm.Cond.classLink (am_nm y).cls w C0 ∈ am_ws) (hov : C0 = am_C1) (h0 : x ≠ 0) (hk : am_ak x = 3) (h1000 : am_ln x 0 ≤ 1000) (hc : cells + 1 ≤ R.cells) (hs : slots + am_ln x 0 ≤ R.slots) (k : am_Ok p l e R s m args below meth c Q D base y (pc + 3) lo (.inr (.inl (x, some (am_sz M))) :: st) (am_al M x (am_ln x 0)) (cells + 1) (slots + am_ln x 0)) : am_Ok p l e R s m args below meth c Q D base y pc lo (.inl (nI (am_ln x 0)) :: st) M cells slots := by
  intro H locs ls hR hL hwl hws hf
  have hn := am_nI_of h1000
  have h4 : am_ak x ≠ 4 := by rw [hk]; decide
  have hz : am_ak x ≠ 0 := by rw [hk]; decide
  refine W.anew C.1 C.2.1 C.2.2.2.1 (C.2.2.2.2.1 _ hcl) (va_AO.use (by rw [hov]; exact C.2.2.2.2.2.2.2.2)) rfl hd rfl hn.1 (by rw [hn.2]; omega) hc (by rw [hn.2]; exact hs) fun cA kA comp f1 f2 f3 f4 => ?_
  rw [hn.2]
  generalize hH1 : H.push ({ cls := cA, slots := Array.replicate (am_ln x 0) .null, vm := .none } : Cell) = H1
  have z1 : H1.size = H.size + 1 := by rw [← hH1, Array.size_push]
  have e1 : H1[H.size]? = some (arrV cA (am_ln x 0) (fun _ => .null)) := by rw [← hH1, Array.getElem?_push_size, ← arrV_new]
  have o1 : ∀ q : Nat, q < H.size → H1[q]? = H[q]? := fun q hq => by rw [← hH1, Array.getElem?_push, if_neg (Nat.ne_of_lt hq)]
  have hAr : ArrOfT s cA (.object C0) := fun N z => ⟨(fun k h => by cases h), kA, f2, comp, f3⟩
  have hst : F0 m (pc + 3) ls (.ref H.size :: st.map am_v) = F0 m (pc + 3) ls ((.inr (.inl (x, some (am_sz M))) :: st : List am_V).map am_v) := by rw [hR.1]; rfl
  refine W.eq hst ?_
  refine k H1 locs ls (hR.al h0 h4 z1 o1 ?_) hL (am_wt_to (am_al_tg hR x _) hwl) (am_wt_c (am_wv_new h0) (am_wt_to (am_al_tg hR x _) (am_wt_t hws))) hf
  unfold am_cell
  rw [if_neg hz, if_neg h4, hat]
  refine ⟨cA, ?_, hAr, kA, comp, f2, f3, f4, f1⟩
  rw [e1, am_lnL (L := am_L (am_al M x (am_ln x 0))) h4, hR.1]
  congr 2
  exact am_ev_al (n := am_ln x 0) .null (by rw [if_pos hk])
theorem am_lkf_spec {y x k w : Nat} {r : vw_C} (h : am_lkf y x k w = true) (hr : am_cl[am_ci x]? = some r) : k < r.2.2 ∧ Jvm.Cond.fieldLink (am_nm y).cls w (r.2.1 k).1 (r.2.1 k).2.1 (r.2.1 k).2.2.1 ∈ am_ws ∧ am_ak x = 0 := by
  unfold am_lkf at h
  rw [hr] at h
  simp only [Bool.and_eq_true, decide_eq_true_eq] at h
  exact ⟨h.1.1, h.1.2, h.2⟩
theorem am_lkf_ak {y x k w : Nat} (h : am_lkf y x k w = true) : am_ak x = 0 := by
  unfold am_lkf at h
  split at h
  · simp only [Bool.and_eq_true, decide_eq_true_eq] at h
    exact h.2
  · cases h
theorem am_fv_si {M : am_M} {t a k : Nat} {x : Int32} (h : am_ft t k ≠ 2) (j : Nat) : updV (am_fv M t a) k (.int x) j = am_fv (am_si M a k x) t a j := by
  by_cases hj : j = k
  · subst hj; simp [updV, am_fv, h, am_mi, am_si]
  · simp [updV, am_fv, am_mi, am_mr, am_si, hj]
theorem am_fv_sr {M : am_M} {t a k : Nat} {o : Option Nat} (h : am_ft t k = 2) (j : Nat) : updV (am_fv M t a) k (va_rf o) j = am_fv (am_sr M a k o) t a j := by
  by_cases hj : j = k
  · subst hj; simp [updV, am_fv, h, am_mr, am_sr]
  · simp [updV, am_fv, am_mi, am_mr, am_sr, hj]
theorem am_s41 (C : am_At p s m args meth c D y) {x k w a : Nat} (hd : decode (am_cd y) pc = .ok (.getfield w, 3)) (hk : am_lkf y x k w = true) (h2 : am_ft x k ≠ 2) (kk : am_Ok p l e R s m args below meth c Q D base y (pc + 3) lo (.inl (am_mi M a k) :: st) M cells slots) : am_Ok p l e R s m args below meth c Q D base y pc lo (.inr (.inl (x, some a)) :: st) M cells slots := by
  intro H locs ls hR hL hwl hws hf
  obtain ⟨hb, htg, r, q1, cell, q2, q3, q4, q5⟩ := am_obj hR (am_wt_h hws) (am_lkf_ak hk)
  obtain ⟨hkN, hlk, -⟩ := am_lkf_spec hk q1
  obtain ⟨hS, hfc, kC, hkC, hkind⟩ := C.2.2.2.2.2.2.1.1 _ _ q1
  obtain ⟨hin, hty, hnm⟩ := am_clk _ _ q1
  obtain ⟨cf, kf, fi, f, hi, hsl⟩ := hS k hkN
  refine W.getf C.1 C.2.1 C.2.2.2.1 (C.2.2.2.2.1 _ hlk) hi (u_facts hfc hkC (u_lays C.2.2.2.2.1 hin hkN) hi).1 q2 (by rw [q4]; exact fun h => by cases h) (v := .int (am_mi M a k)) ?_ rfl rfl hd (kk H locs ls hR hL hwl (am_wt_c (am_wv_i M _) (am_wt_t hws)) hf)
  rw [hsl, q5 k hkN]
  simp [am_fv, h2]
theorem am_s42 (C : am_At p s m args meth c D y) {x k w a : Nat} (hd : decode (am_cd y) pc = .ok (.getfield w, 3)) (hk : am_lkf y x k w = true) (h2 : am_ft x k = 2) (kk : am_Ok p l e R s m args below meth c Q D base y (pc + 3) lo (.inr (.inl (am_fr x k, am_mr M a k)) :: st) M cells slots) : am_Ok p l e R s m args below meth c Q D base y pc lo (.inr (.inl (x, some a)) :: st) M cells slots := by
  intro H locs ls hR hL hwl hws hf
  obtain ⟨hb, htg, r, q1, cell, q2, q3, q4, q5⟩ := am_obj hR (am_wt_h hws) (am_lkf_ak hk)
  obtain ⟨hkN, hlk, -⟩ := am_lkf_spec hk q1
  obtain ⟨hS, hfc, kC, hkC, hkind⟩ := C.2.2.2.2.2.2.1.1 _ _ q1
  obtain ⟨hin, hty, hnm⟩ := am_clk _ _ q1
  obtain ⟨cf, kf, fi, f, hi, hsl⟩ := hS k hkN
  have hv : am_wv M (.inr (.inl (am_fr x k, am_mr M a k))) := fun t' b' q => by
    have q1 := (Prod.mk.inj (Sum.inl.inj (Sum.inr.inj q)))
    have h5 := hR.2.2.2 a k b' q1.2
    rw [htg] at h5
    rw [← q1.1]
    exact ⟨h5.1, by rw [← h5.1]; exact h5.2⟩
  refine W.getf C.1 C.2.1 C.2.2.2.1 (C.2.2.2.2.1 _ hlk) hi (u_facts hfc hkC (u_lays C.2.2.2.2.1 hin hkN) hi).1 q2 (by rw [q4]; exact fun h => by cases h) (v := va_rf (am_mr M a k)) ?_ rfl rfl hd (kk H locs ls hR hL hwl (am_wt_c hv (am_wt_t hws)) hf)
  rw [hsl, q5 k hkN]
  simp [am_fv, h2]
theorem am_s43 (C : am_At p s m args meth c D y) {x k w a : Nat} {v : Int32} (hd : decode (am_cd y) pc = .ok (.putfield w, 3)) (hk : am_lkf y x k w = true) (hfin : ∀ r, am_cl[am_ci x]? = some r → (r.2.1 k).2.2.2 = false) (h2 : am_ft x k = 0) (kk : am_Ok p l e R s m args below meth c Q D base y (pc + 3) lo st (am_si M a k v) cells slots) : am_Ok p l e R s m args below meth c Q D base y pc lo (.inl v :: .inr (.inl (x, some a)) :: st) M cells slots := by
  intro H locs ls hR hL hwl hws hf
  obtain ⟨hb, htg, r, q1, cell, q2, q3, q4, q5⟩ := am_obj hR (am_wt_h (am_wt_t hws)) (am_lkf_ak hk)
  obtain ⟨hkN, hlk, hak⟩ := am_lkf_spec hk q1
  obtain ⟨hS, hfc, kC, hkC, hkind⟩ := C.2.2.2.2.2.2.1.1 _ _ q1
  obtain ⟨hin, hty, hnm⟩ := am_clk _ _ q1
  obtain ⟨C0, T0, N0⟩ := r
  have hap := va_apart (own := C0) C.2.2.2.2.1 hin (am_tf (am_ci x)) hty hnm C.2.2.2.2.2.2.1 q1
  obtain ⟨cf, kf, fi, f, hi, hsl⟩ := hS k hkN
  have hst := (u_facts hfc hkC (u_lays C.2.2.2.2.1 hin hkN) hi).1
  have hlay := C.2.2.2.2.1 _ (hin _ (u_in_lay hkN))
  unfold u_lay at hlay
  rw [if_neg (by rw [hfin _ q1]; decide)] at hlay
  have h6 := u_store (v := (.int v)) hfc hkC hkind hlay hi (hty k hkN) (by rw [am_tf0 h2]; rfl) (by rw [am_tf0 h2]; rfl)
  refine W.putK C.1 C.2.1 (f := f) ⟨C.2.2.2.1, C.2.2.2.2.1 _ hlk, ⟨_, _, _, hi⟩, hst⟩ (by rw [q3]; exact h6) q2 q4 (by rw [hsl]; exact k2_hasslot (q5 k hkN)) rfl rfl hd fun H1 e1 z1 oq => ?_
  rw [hsl] at e1
  refine kk H1 _ ls (hR.set (a := a) z1 oq rfl rfl rfl am_si_o (fun _ _ _ => rfl) ?_ (am_wm_si hR.2.2.2)) hL hwl (am_wt_t (am_wt_t hws)) (am_free hf hb)
  rw [htg]
  unfold am_cell
  rw [if_pos hak]
  exact ⟨_, q1, t_OB.to (V := updV (am_fv M x a) k (.int v)) ⟨_, e1, q3, q4, t_set q5 hap hkN (.int v)⟩ (fun j _ => am_fv_si (by rw [h2]; decide) j)⟩
theorem am_s46 (C : am_At p s m args meth c D y) {x k w a : Nat} {v : Int32} (hd : decode (am_cd y) pc = .ok (.putfield w, 3)) (hk : am_lkf y x k w = true) (hini : (am_nm y).name = "<init>") (hfin : ∀ r, am_cl[am_ci x]? = some r → (r.2.1 k).2.2.2 = true ∧ (r.2.1 k).1 = (am_nm y).cls) (h2 : am_ft x k = 0) (kk : am_Ok p l e R s m args below meth c Q D base y (pc + 3) lo st (am_si M a k v) cells slots) : am_Ok p l e R s m args below meth c Q D base y pc lo (.inl v :: .inr (.inl (x, some a)) :: st) M cells slots := by
  intro H locs ls hR hL hwl hws hf
  obtain ⟨hb, htg, r, q1, cell, q2, q3, q4, q5⟩ := am_obj hR (am_wt_h (am_wt_t hws)) (am_lkf_ak hk)
  obtain ⟨hkN, hlk, hak⟩ := am_lkf_spec hk q1
  obtain ⟨hS, hfc, kC, hkC, hkind⟩ := C.2.2.2.2.2.2.1.1 _ _ q1
  obtain ⟨hin, hty, hnm⟩ := am_clk _ _ q1
  obtain ⟨C0, T0, N0⟩ := r
  have hap := va_apart (own := C0) C.2.2.2.2.1 hin (am_tf (am_ci x)) hty hnm C.2.2.2.2.2.2.1 q1
  obtain ⟨cf, kf, fi, f, hi, hsl⟩ := hS k hkN
  have hst := (u_facts hfc hkC (u_lays C.2.2.2.2.1 hin hkN) hi).1
  have hlay := C.2.2.2.2.1 _ (hin _ (u_in_lay hkN))
  unfold u_lay at hlay
  rw [if_pos (hfin _ q1).1] at hlay
  have hcf : m.cls = cf := by
    obtain ⟨_, _, c', _, _, _, -, -, hf', -, -, -, hown2, -⟩ := Cond.laysFinal_spec hlay
    have e1 : c' = cf := by have := hi.symm.trans hf'; simp at this; exact this.1.symm
    have hdecl : (T0 k).1 = (am_nm y).cls := (hfin _ q1).2
    rw [hdecl] at hown2
    rw [← e1]; exact Option.some.inj (C.2.2.2.1.symm.trans hown2)
  have h6 := u_fits (v := (.int v)) hfc hkC hkind (Or.inr hlay) hi (hty k hkN) (by rw [am_tf0 h2]; rfl) (by rw [am_tf0 h2]; rfl)
  refine W.putFinK C.1 C.2.1 C.2.2.2.1 (C.2.2.2.2.1 _ hlk) hi hst hcf (C.2.2.2.2.2.1 hini) (by rw [q3]; exact h6) q2 q4 (by rw [hsl]; exact k2_hasslot (q5 k hkN)) rfl rfl hd fun H1 e1 z1 oq => ?_
  rw [hsl] at e1
  refine kk H1 _ ls (hR.set (a := a) z1 oq rfl rfl rfl am_si_o (fun _ _ _ => rfl) ?_ (am_wm_si hR.2.2.2)) hL hwl (am_wt_t (am_wt_t hws)) (am_free hf hb)
  rw [htg]
  unfold am_cell
  rw [if_pos hak]
  exact ⟨_, q1, t_OB.to (V := updV (am_fv M x a) k (.int v)) ⟨_, e1, q3, q4, t_set q5 hap hkN (.int v)⟩ (fun j _ => am_fv_si (by rw [h2]; decide) j)⟩
theorem am_s44 (C : am_At p s m args meth c D y) {x k w a : Nat} {v : Int32} (hd : decode (am_cd y) pc = .ok (.putfield w, 3)) (hk : am_lkf y x k w = true) (hfin : ∀ r, am_cl[am_ci x]? = some r → (r.2.1 k).2.2.2 = false) (h2 : am_ft x k = 1) (hv : v = 0 ∨ v = 1) (kk : am_Ok p l e R s m args below meth c Q D base y (pc + 3) lo st (am_si M a k v) cells slots) : am_Ok p l e R s m args below meth c Q D base y pc lo (.inl v :: .inr (.inl (x, some a)) :: st) M cells slots := by
  intro H locs ls hR hL hwl hws hf
  obtain ⟨hb, htg, r, q1, cell, q2, q3, q4, q5⟩ := am_obj hR (am_wt_h (am_wt_t hws)) (am_lkf_ak hk)
  obtain ⟨hkN, hlk, hak⟩ := am_lkf_spec hk q1
  obtain ⟨hS, hfc, kC, hkC, hkind⟩ := C.2.2.2.2.2.2.1.1 _ _ q1
  obtain ⟨hin, hty, hnm⟩ := am_clk _ _ q1
  obtain ⟨C0, T0, N0⟩ := r
  have hap := va_apart (own := C0) C.2.2.2.2.1 hin (am_tf (am_ci x)) hty hnm C.2.2.2.2.2.2.1 q1
  obtain ⟨cf, kf, fi, f, hi, hsl⟩ := hS k hkN
  have hst := (u_facts hfc hkC (u_lays C.2.2.2.2.1 hin hkN) hi).1
  have hlay := C.2.2.2.2.1 _ (hin _ (u_in_lay hkN))
  unfold u_lay at hlay
  rw [if_neg (by rw [hfin _ q1]; decide)] at hlay
  have h6 := u_store (v := (.int v)) hfc hkC hkind hlay hi (hty k hkN) (by rw [am_tf1 h2]; rcases hv with rfl | rfl <;> rfl) (by rw [am_tf1 h2]; rcases hv with rfl | rfl <;> rfl)
  refine W.putK C.1 C.2.1 (f := f) ⟨C.2.2.2.1, C.2.2.2.2.1 _ hlk, ⟨_, _, _, hi⟩, hst⟩ (by rw [q3]; exact h6) q2 q4 (by rw [hsl]; exact k2_hasslot (q5 k hkN)) rfl rfl hd fun H1 e1 z1 oq => ?_
  rw [hsl] at e1
  refine kk H1 _ ls (hR.set (a := a) z1 oq rfl rfl rfl am_si_o (fun _ _ _ => rfl) ?_ (am_wm_si hR.2.2.2)) hL hwl (am_wt_t (am_wt_t hws)) (am_free hf hb)
  rw [htg]
  unfold am_cell
  rw [if_pos hak]
  exact ⟨_, q1, t_OB.to (V := updV (am_fv M x a) k (.int v)) ⟨_, e1, q3, q4, t_set q5 hap hkN (.int v)⟩ (fun j _ => am_fv_si (by rw [h2]; decide) j)⟩
theorem am_s45 (C : am_At p s m args meth c D y) {x k w a : Nat} {o : Option Nat} (hd : decode (am_cd y) pc = .ok (.putfield w, 3)) (hk : am_lkf y x k w = true) (hfin : ∀ r, am_cl[am_ci x]? = some r → (r.2.1 k).2.2.2 = false) (h2 : am_ft x k = 2) (hr2 : am_isr (am_tf (am_ci x) k) = true) (kk : am_Ok p l e R s m args below meth c Q D base y (pc + 3) lo st (am_sr M a k o) cells slots) : am_Ok p l e R s m args below meth c Q D base y pc lo (.inr (.inl (am_fr x k, o)) :: .inr (.inl (x, some a)) :: st) M cells slots := by
  intro H locs ls hR hL hwl hws hf
  obtain ⟨hb, htg, r, q1, cell, q2, q3, q4, q5⟩ := am_obj hR (am_wt_h (am_wt_t hws)) (am_lkf_ak hk)
  obtain ⟨hkN, hlk, hak⟩ := am_lkf_spec hk q1
  obtain ⟨hS, hfc, kC, hkC, hkind⟩ := C.2.2.2.2.2.2.1.1 _ _ q1
  obtain ⟨hin, hty, hnm⟩ := am_clk _ _ q1
  obtain ⟨C0, T0, N0⟩ := r
  have hap := va_apart (own := C0) C.2.2.2.2.1 hin (am_tf (am_ci x)) hty hnm C.2.2.2.2.2.2.1 q1
  obtain ⟨cf, kf, fi, f, hi, hsl⟩ := hS k hkN
  have hst := (u_facts hfc hkC (u_lays C.2.2.2.2.1 hin hkN) hi).1
  have hlay := C.2.2.2.2.1 _ (hin _ (u_in_lay hkN))
  unfold u_lay at hlay
  rw [if_neg (by rw [hfin _ q1]; decide)] at hlay
  have h6 := u_store (v := (va_rf o)) hfc hkC hkind hlay hi (hty k hkN) (am_tf2 hr2 o).1 (am_tf2 hr2 o).2
  refine W.putK C.1 C.2.1 (f := f) ⟨C.2.2.2.1, C.2.2.2.2.1 _ hlk, ⟨_, _, _, hi⟩, hst⟩ (by rw [q3]; exact h6) q2 q4 (by rw [hsl]; exact k2_hasslot (q5 k hkN)) rfl rfl hd fun H1 e1 z1 oq => ?_
  rw [hsl] at e1
  refine kk H1 _ ls (hR.set (a := a) z1 oq rfl rfl rfl (fun _ _ _ => rfl) am_sr_o ?_ (am_wm_sr hR.2.2.2 (fun b hb2 => by subst hb2; have h7 := am_wt_h hws (am_fr x k) b rfl; rw [htg, h7.1]; exact ⟨rfl, h7.2⟩))) hL hwl (am_wt_t (am_wt_t hws)) (am_free hf hb)
  rw [htg]
  unfold am_cell
  rw [if_pos hak]
  exact ⟨_, q1, t_OB.to (V := updV (am_fv M x a) k (va_rf o)) ⟨_, e1, q3, q4, t_set q5 hap hkN (va_rf o)⟩ (fun j _ => am_fv_sr h2 j)⟩
theorem am_s47 (C : am_At p s m args meth c D y) {x k w a : Nat} {o : Option Nat} (hd : decode (am_cd y) pc = .ok (.putfield w, 3)) (hk : am_lkf y x k w = true) (hini : (am_nm y).name = "<init>") (hfin : ∀ r, am_cl[am_ci x]? = some r → (r.2.1 k).2.2.2 = true ∧ (r.2.1 k).1 = (am_nm y).cls) (h2 : am_ft x k = 2) (hr2 : am_isr (am_tf (am_ci x) k) = true) (kk : am_Ok p l e R s m args below meth c Q D base y (pc + 3) lo st (am_sr M a k o) cells slots) : am_Ok p l e R s m args below meth c Q D base y pc lo (.inr (.inl (am_fr x k, o)) :: .inr (.inl (x, some a)) :: st) M cells slots := by
  intro H locs ls hR hL hwl hws hf
  obtain ⟨hb, htg, r, q1, cell, q2, q3, q4, q5⟩ := am_obj hR (am_wt_h (am_wt_t hws)) (am_lkf_ak hk)
  obtain ⟨hkN, hlk, hak⟩ := am_lkf_spec hk q1
  obtain ⟨hS, hfc, kC, hkC, hkind⟩ := C.2.2.2.2.2.2.1.1 _ _ q1
  obtain ⟨hin, hty, hnm⟩ := am_clk _ _ q1
  obtain ⟨C0, T0, N0⟩ := r
  have hap := va_apart (own := C0) C.2.2.2.2.1 hin (am_tf (am_ci x)) hty hnm C.2.2.2.2.2.2.1 q1
  obtain ⟨cf, kf, fi, f, hi, hsl⟩ := hS k hkN
  have hst := (u_facts hfc hkC (u_lays C.2.2.2.2.1 hin hkN) hi).1
  have hlay := C.2.2.2.2.1 _ (hin _ (u_in_lay hkN))
  unfold u_lay at hlay
  rw [if_pos (hfin _ q1).1] at hlay
  have hcf : m.cls = cf := by
    obtain ⟨_, _, c', _, _, _, -, -, hf', -, -, -, hown2, -⟩ := Cond.laysFinal_spec hlay
    have e1 : c' = cf := by have := hi.symm.trans hf'; simp at this; exact this.1.symm
    have hdecl : (T0 k).1 = (am_nm y).cls := (hfin _ q1).2
    rw [hdecl] at hown2
    rw [← e1]; exact Option.some.inj (C.2.2.2.1.symm.trans hown2)
  have h6 := u_fits (v := (va_rf o)) hfc hkC hkind (Or.inr hlay) hi (hty k hkN) (am_tf2 hr2 o).1 (am_tf2 hr2 o).2
  refine W.putFinK C.1 C.2.1 C.2.2.2.1 (C.2.2.2.2.1 _ hlk) hi hst hcf (C.2.2.2.2.2.1 hini) (by rw [q3]; exact h6) q2 q4 (by rw [hsl]; exact k2_hasslot (q5 k hkN)) rfl rfl hd fun H1 e1 z1 oq => ?_
  rw [hsl] at e1
  refine kk H1 _ ls (hR.set (a := a) z1 oq rfl rfl rfl (fun _ _ _ => rfl) am_sr_o ?_ (am_wm_sr hR.2.2.2 (fun b hb2 => by subst hb2; have h7 := am_wt_h hws (am_fr x k) b rfl; rw [htg, h7.1]; exact ⟨rfl, h7.2⟩))) hL hwl (am_wt_t (am_wt_t hws)) (am_free hf hb)
  rw [htg]
  unfold am_cell
  rw [if_pos hak]
  exact ⟨_, q1, t_OB.to (V := updV (am_fv M x a) k (va_rf o)) ⟨_, e1, q3, q4, t_set q5 hap hkN (va_rf o)⟩ (fun j _ => am_fv_sr h2 j)⟩
theorem am_s48 (C : am_At p s m args meth c D y) {x w : Nat} {r : vw_C} (hd : decode (am_cd y) pc = .ok (.new w, 3)) (hr : am_cl[am_ci x]? = some r) (hN : r.2.2 = am_nf x) (hcl : Jvm.Cond.classLink (am_nm y).cls w r.1 ∈ am_ws) (hins : Jvm.Cond.instantiable r.1 r.2.2 ∈ am_ws) (hini : Jvm.Cond.initialized r.1 ∈ am_ws) (h0 : x ≠ 0) (hk : am_ak x = 0) (hfs : ∀ k, k < am_nf x → defaultValue (am_tf (am_ci x) k) = if am_ft x k = 2 then .null else .int 0) (hc : cells + 1 ≤ R.cells) (hs : slots + am_nf x ≤ R.slots) (k : am_Ok p l e R s m args below meth c Q D base y (pc + 3) lo (.inr (.inl (x, some (am_sz M))) :: st) (am_al M x (am_nf x)) (cells + 1) (slots + am_nf x)) : am_Ok p l e R s m args below meth c Q D base y pc lo st M cells slots := by
  intro H locs ls hR hL hwl hws hf
  have h4 : am_ak x ≠ 4 := by rw [hk]; decide
  have hKn := C.2.2.2.2.2.2.1.1 _ _ hr
  obtain ⟨hin, hty, hnm⟩ := am_clk _ _ hr
  rw [← hN] at hs k hfs
  refine W.newcK C.1 C.2.1 C.2.2.2.1 (C.2.2.2.2.1 _ hcl) (C.2.2.2.2.1 _ hins) (C.2.2.2.2.1 _ hini) rfl hd hc hs hKn.2.1 hR.1 fun H1 kC hkC e1 z1 o1 => ?_
  refine k H1 locs ls (hR.al h0 h4 (by rw [z1, hR.1]) (fun q hq => o1 q (by rw [← hR.1]; exact hq)) ?_) hL (am_wt_to (am_al_tg hR x _) hwl) (am_wt_c (am_wv_new h0) (am_wt_to (am_al_tg hR x _) hws)) hf
  unfold am_cell
  rw [if_pos hk, hR.1]
  refine ⟨r, hr, (u_born (am_tf (am_ci x)) C.2.2.2.2.1 hin hKn hkC e1 hty).to (fun j hj => ?_)⟩
  rw [hfs j hj]
  by_cases h2 : am_ft x j = 2 <;> simp [am_fv, h2, am_mi, am_mr, am_al, va_rf]
theorem am_s49 (C : am_At p s m args meth c D y) {w t a : Nat} (hd : decode (am_cd y) pc = .ok (.invokespecial w, 3)) (h1 : Jvm.Cond.methodLink (am_nm y).cls w Lib.objectInit ∈ am_ws) (h2 : Jvm.Cond.instanceMethod Lib.objectInit ∈ am_ws) (h3 : Jvm.Cond.code Lib.objectInit ⟨#[0xb1]⟩ 1 none ∈ am_ws) (h8 : st.length ≤ 8) (hfr : 1 ≤ R.frames) (hlo : 40 ≤ R.locals) (k : am_Ok p l e R s m args below meth c Q D base y (pc + 3) lo st M cells slots) : am_Ok p l e R s m args below meth c Q D base y pc lo (.inr (.inl (t, some a)) :: st) M cells slots := by
  intro H locs ls hR hL hwl hws hf
  exact W.objInit C.1 C.2.1 C.2.2.2.1 (C.2.2.2.2.1 _ h1) (C.2.2.2.2.1 _ h2) (C.2.2.2.2.1 _ h3) rfl (by rw [C.2.2.1]; exact hL.1) rfl hd hfr (by show 2 * 0 + _ + 12 ≤ _; rw [am_v_sum]; omega) (k H locs ls hR hL hwl (am_wt_t hws) hf)
theorem am_s50 (C : am_At p s m args meth c D y) {x : Nat} {v : Int32} {len : Nat} {dflt l0 h0 : Int} {offs : List Int} (hd : decode (am_cd y) pc = .ok (.tableswitch dflt l0 h0 offs.toArray, len)) (hlen : h0 - l0 < (offs.length : Int)) (h1 : ∀ o ∈ dflt :: offs, 0 ≤ (pc : Int) + o) (hx : am_swt x v = ((pc : Int) + (if v.toInt < l0 ∨ h0 < v.toInt then dflt else offs.getD (v.toInt - l0).toNat 0)).toNat) (k : am_Ok p l e R s m args below meth c Q D base y (am_swt x v) lo st M cells slots) : am_Ok p l e R s m args below meth c Q D base y pc lo (.inl v :: st) M cells slots := by
  intro H locs ls hR hL hwl hws hf
  have h2 := k H locs ls hR hL hwl (am_wt_t hws) hf
  by_cases hout : v.toInt < l0 ∨ h0 < v.toInt
  · rw [if_pos hout] at hx
    exact lv_tableOut (tgt := am_swt x v) C.1 C.2.1 hd hout (by rw [hx]; have := h1 dflt List.mem_cons_self; omega) h2
  · rw [if_neg hout] at hx
    have hlt : (v.toInt - l0).toNat < offs.length := by omega
    have hg : offs.toArray[(v.toInt - l0).toNat]? = some (offs.getD (v.toInt - l0).toNat 0) := by
      simp [hlt, List.getD_eq_getElem?_getD]
    have hmem : offs.getD (v.toInt - l0).toNat 0 ∈ dflt :: offs := by
      refine List.mem_cons_of_mem _ ?_
      rw [List.getD_eq_getElem?_getD, List.getElem?_eq_getElem hlt]
      exact List.getElem_mem hlt
    exact lv_tableIn (tgt := am_swt x v) C.1 C.2.1 hd (fun h => hout (Or.inl h)) (fun h => hout (Or.inr h)) hg (by rw [hx]; have := h1 _ hmem; omega) h2
theorem am_s50b (C : am_At p s m args meth c D y) {x : Nat} {v : Int32} {len : Nat} {dflt : Int} {ps : List (Int × Int)} (hd : decode (am_cd y) pc = .ok (.lookupswitch dflt ps.toArray, len)) (hp : (ps.zip (ps.drop 1)).all (fun (a, next) => a.1 < next.1) = true) (h1 : 0 ≤ (pc : Int) + Op.lookupswitch.offset ps dflt v.toInt) (hx : am_swt x v = ((pc : Int) + Op.lookupswitch.offset ps dflt v.toInt).toNat) (k : am_Ok p l e R s m args below meth c Q D base y (am_swt x v) lo st M cells slots) : am_Ok p l e R s m args below meth c Q D base y pc lo (.inl v :: st) M cells slots := by
  intro H locs ls hR hL hwl hws hf
  exact lv_lookup (tgt := am_swt x v) C.1 C.2.1 hd hp rfl (by rw [hx]; show (pc : Int) + Op.lookupswitch.offset ps dflt v.toInt = _; omega) (k H locs ls hR hL hwl (am_wt_t hws) hf)
theorem am_s51 (C : am_At p s m args meth c D y) {w0 : Nat} {v w : Int32} (hd : decode (am_cd y) pc = .ok (.invokestatic w0, 3)) (h1 : Jvm.Cond.methodLink (am_nm y).cls w0 Lib.Math.min.name ∈ am_ws) (h2 : Jvm.Cond.static Lib.Math.min.name ∈ am_ws) (h3 : Jvm.Cond.initialized "java/lang/Math" ∈ am_ws) (h4 : Jvm.Cond.code Lib.Math.min.name Lib.Math.min.code 2 (some .int) ∈ am_ws) (h8 : st.length ≤ 8) (hfr : 1 ≤ R.frames) (hlo : 40 ≤ R.locals) (hc : cells ≤ R.cells) (hs : slots ≤ R.slots) (k : am_Ok p l e R s m args below meth c Q D base y (pc + 3) lo (.inl (if w < v then w else v) :: st) M cells slots) : am_Ok p l e R s m args below meth c Q D base y pc lo (.inl w :: .inl v :: st) M cells slots := by
  intro H locs ls hR hL hwl hws hf
  exact va_mmin C.1 C.2.1 (by rw [C.2.2.1]; exact hL.1.symm) C.2.2.2.1 (C.2.2.2.2.1 _ h1) (C.2.2.2.2.1 _ h2) (C.2.2.2.2.1 _ h3) (C.2.2.2.2.1 _ h4) hfr (by rw [am_v_sum]; omega) hc hs hd (k H locs ls hR hL hwl (am_wt_c (am_wv_i M _) (am_wt_t (am_wt_t hws))) hf)
end SND3
end
section
-- THE STEPS TOGETHER
section SND4
variable {p : Program} {l : Launch} {e : Env} {R : Room} {s : State} {m : MethodId} {args : Array Value} {below : List Frame} {meth : Method} {c : Code} {H : Heap} {locs : List Loc} {cells slots : Nat} {Q : State → Prop} {D : va_G} {base y pc : Nat} {lo st : List am_V} {M : am_M}
theorem am_c0 (n a : Nat) : n + (a - a) = n := by omega
theorem am_c1 (n a k : Nat) : n + (a + k - a) = n + k := by omega
theorem am_chk_of {y pc : Nat} {i : am_I} (h : am_ins y pc = some i) : decode (am_cd y) pc = .ok (am_enc i pc) ∧ am_lk y pc i = true := am_chk y pc i h
theorem am_bin_c {op : Nat} {x y v : Int32} (h : am_bin op x y = some v) : (op = 13 ∧ v = x + y) ∨ (op = 14 ∧ v = x - y) ∨ (op = 15 ∧ v = x * y) ∨ (op = 16 ∧ ¬ y = 0 ∧ v = x - x / y * y) ∨ (op = 17 ∧ v = x &&& y) ∨ (op = 18 ∧ v = x ^^^ y) ∨ (op = 19 ∧ v = x <<< (y &&& 31)) ∨ (op = 20 ∧ v = x >>> (y &&& 31)) := by
  unfold am_bin at h
  split at h
  · cases h; exact Or.inl ⟨rfl, rfl⟩
  · cases h; exact Or.inr (Or.inl ⟨rfl, rfl⟩)
  · cases h; exact Or.inr (Or.inr (Or.inl ⟨rfl, rfl⟩))
  · split at h
    · cases h
    · rename_i h0
      cases h
      exact Or.inr (Or.inr (Or.inr (Or.inl ⟨rfl, h0, rfl⟩)))
  · cases h; exact Or.inr (Or.inr (Or.inr (Or.inr (Or.inl ⟨rfl, rfl⟩))))
  · cases h; exact Or.inr (Or.inr (Or.inr (Or.inr (Or.inr (Or.inl ⟨rfl, rfl⟩)))))
  · cases h; exact Or.inr (Or.inr (Or.inr (Or.inr (Or.inr (Or.inr (Or.inl ⟨rfl, rfl⟩))))))
  · cases h; exact Or.inr (Or.inr (Or.inr (Or.inr (Or.inr (Or.inr (Or.inr ⟨rfl, rfl⟩))))))
  · cases h
theorem am_off_mem (ps : List (Int × Int)) (d k : Int) : Op.lookupswitch.offset ps d k ∈ d :: ps.map (·.2) := by
  induction ps with
  | nil => exact List.mem_cons_self
  | cons q ps ih =>
    obtain ⟨a, o⟩ := q
    rw [lookupswitch.offset_cons]
    split
    · simp
    · rcases List.mem_cons.mp ih with h | h
      · rw [h]; exact List.mem_cons_self
      · exact List.mem_cons_of_mem _ (List.mem_cons_of_mem _ h)
theorem am_s50x {x : Nat} {v : Int32} (C : am_At p s m args meth c D y) (hd : decode (am_cd y) pc = .ok (am_esw x)) (hk : am_lsw x pc = true) (k : am_Ok p l e R s m args below meth c Q D base y (am_swt x v) lo st M cells slots) : am_Ok p l e R s m args below meth c Q D base y pc lo (.inl v :: st) M cells slots := by
  have hx : am_swt x v = am_swt x v := rfl
  unfold am_esw at hd
  unfold am_lsw at hk
  split at hd
  · rename_i b p0 d l0 h0 os ps len hsw
    rw [hsw] at hk
    simp only [Bool.and_eq_true, decide_eq_true_eq, List.all_eq_true] at hk
    obtain ⟨⟨rfl, h2⟩, h3⟩ := hk
    exact am_s50 C hd h2 (fun o ho => h3 o ho) (by unfold am_swt; rw [hsw]) k
  · rename_i b p0 d l0 h0 os ps len hsw
    rw [hsw] at hk
    simp only [Bool.and_eq_true, decide_eq_true_eq] at hk
    obtain ⟨⟨rfl, h2⟩, h3⟩ := hk
    have h4 := List.all_eq_true.mp h3 _ (am_off_mem ps d v.toInt)
    exact am_s50b C hd h2 (by simpa using h4) (by unfold am_swt; rw [hsw]) k
set_option maxHeartbeats 4000000 in
theorem am_tls (C : am_At p s m args meth c D y) {i : am_I} {q : am_S} (hi : am_ins y pc = some i) (hs : am_tl i pc lo st M = some q) (hfr : 1 ≤ R.frames) (hlo : 40 ≤ R.locals) (hc : cells + (am_sz q.2.2.2 - am_sz M) ≤ R.cells) (hsl : slots + (am_sl q.2.2.2 - am_sl M) ≤ R.slots)
    (k : ∀ cells' slots', cells' = cells + (am_sz q.2.2.2 - am_sz M) → slots' = slots + (am_sl q.2.2.2 - am_sl M) → am_Ok p l e R s m args below meth c Q D base y q.1 q.2.1 q.2.2.1 q.2.2.2 cells' slots') : am_Ok p l e R s m args below meth c Q D base y pc lo st M cells slots := by
  unfold am_tl at hs
  split at hs
  · have hk := am_chk_of hi
    unfold am_f1 at hs
    split at hs
    · rename_i h0
      cases hs
      exact am_s1 C hk.1 h0 (k cells slots (am_c0 cells (am_sz M)).symm (am_c0 slots (am_sl M)).symm)
    · cases hs
  · have hk := am_chk_of hi
    unfold am_f1 at hs
    split at hs
    · rename_i h0
      cases hs
      exact am_s2 C hk.1 h0 (k cells slots (am_c0 cells (am_sz M)).symm (am_c0 slots (am_sl M)).symm)
    · cases hs
  · have hk := am_chk_of hi
    unfold am_f3 at hs
    split at hs
    · rename_i h0
      cases hs
      exact am_s3 C hk.1 h0 (k cells slots (am_c0 cells (am_sz M)).symm (am_c0 slots (am_sl M)).symm)
    · cases hs
  · have hk := am_chk_of hi
    unfold am_f3 at hs
    split at hs
    · rename_i h0
      cases hs
      exact am_s4 C hk.1 h0 (k cells slots (am_c0 cells (am_sz M)).symm (am_c0 slots (am_sl M)).symm)
    · cases hs
  · have hk := am_chk_of hi
    unfold am_f5 at hs
    split at hs
    · split at hs
      · rename_i h0
        cases hs
        exact am_s5 C hk.1 h0 (k cells slots (am_c0 cells (am_sz M)).symm (am_c0 slots (am_sl M)).symm)
      · cases hs
    · cases hs
  · have hk := am_chk_of hi
    unfold am_f5 at hs
    split at hs
    · split at hs
      · rename_i h0
        cases hs
        exact am_s6 C hk.1 h0 (k cells slots (am_c0 cells (am_sz M)).symm (am_c0 slots (am_sl M)).symm)
      · cases hs
    · cases hs
  · have hk := am_chk_of hi
    unfold am_f7 at hs
    split at hs
    · split at hs
      · rename_i h0
        cases hs
        exact am_s7 C hk.1 h0 (k cells slots (am_c0 cells (am_sz M)).symm (am_c0 slots (am_sl M)).symm)
      · cases hs
    · cases hs
  · have hk := am_chk_of hi
    unfold am_f7 at hs
    split at hs
    · split at hs
      · rename_i h0
        cases hs
        exact am_s8 C hk.1 h0 (k cells slots (am_c0 cells (am_sz M)).symm (am_c0 slots (am_sl M)).symm)
      · cases hs
    · cases hs
  · have hk := am_chk_of hi
    unfold am_f9 at hs
    split at hs
    · rename_i h0
      cases hs
      exact am_s9 C hk.1 h0 (k cells slots (am_c0 cells (am_sz M)).symm (am_c0 slots (am_sl M)).symm)
    · cases hs
  · have hk := am_chk_of hi
    cases hs
    exact am_s10 C hk.1 (k cells slots (am_c0 cells (am_sz M)).symm (am_c0 slots (am_sl M)).symm)
  · have hk := am_chk_of hi
    cases hs
    exact am_s11 C hk.1 (k cells slots (am_c0 cells (am_sz M)).symm (am_c0 slots (am_sl M)).symm)
  · have hk := am_chk_of hi
    unfold am_f13 at hs
    split at hs
    · split at hs
      · rename_i hu
        cases hs
        rcases am_bin_c hu with ⟨rfl, rfl⟩ | ⟨rfl, rfl⟩ | ⟨rfl, rfl⟩ | ⟨rfl, h1, rfl⟩ | ⟨rfl, rfl⟩ | ⟨rfl, rfl⟩ | ⟨rfl, rfl⟩ | ⟨rfl, rfl⟩
        · exact am_s13 C hk.1 (k cells slots (am_c0 cells (am_sz M)).symm (am_c0 slots (am_sl M)).symm)
        · exact am_s14 C hk.1 (k cells slots (am_c0 cells (am_sz M)).symm (am_c0 slots (am_sl M)).symm)
        · exact am_s15 C hk.1 (k cells slots (am_c0 cells (am_sz M)).symm (am_c0 slots (am_sl M)).symm)
        · exact am_s16 C hk.1 h1 (k cells slots (am_c0 cells (am_sz M)).symm (am_c0 slots (am_sl M)).symm)
        · exact am_s17 C hk.1 (k cells slots (am_c0 cells (am_sz M)).symm (am_c0 slots (am_sl M)).symm)
        · exact am_s18 C hk.1 (k cells slots (am_c0 cells (am_sz M)).symm (am_c0 slots (am_sl M)).symm)
        · exact am_s19 C hk.1 (k cells slots (am_c0 cells (am_sz M)).symm (am_c0 slots (am_sl M)).symm)
        · exact am_s20 C hk.1 (k cells slots (am_c0 cells (am_sz M)).symm (am_c0 slots (am_sl M)).symm)
      · cases hs
    · cases hs
  · have hk := am_chk_of hi
    unfold am_f21 at hs
    split at hs
    · cases hs; exact am_s21 C hk.1 (k cells slots (am_c0 cells (am_sz M)).symm (am_c0 slots (am_sl M)).symm)
    · cases hs
  · have hk := am_chk_of hi
    unfold am_f22 at hs
    split at hs
    · cases hs; exact am_s22 C hk.1 (k cells slots (am_c0 cells (am_sz M)).symm (am_c0 slots (am_sl M)).symm)
    · cases hs
  · have hk := am_chk_of hi
    cases hs
    exact am_s24 C hk.1 (k cells slots (am_c0 cells (am_sz M)).symm (am_c0 slots (am_sl M)).symm)
  · have hk := am_chk_of hi
    unfold am_f25 at hs
    split at hs
    · refine am_s25 (w := 0) C hk.1 ?_
      unfold am_br at hs ⊢
      split at hs <;> split at hs <;> rename_i h0 <;> cases hs <;> simp only [h0, if_true, if_false] <;> exact (k cells slots (am_c0 cells (am_sz M)).symm (am_c0 slots (am_sl M)).symm)
    · cases hs
  · have hk := am_chk_of hi
    unfold am_f26 at hs
    split at hs
    · refine am_s26 C hk.1 ?_
      unfold am_br at hs ⊢
      split at hs <;> split at hs <;> rename_i h0 <;> cases hs <;> simp only [h0, if_true, if_false] <;> exact (k cells slots (am_c0 cells (am_sz M)).symm (am_c0 slots (am_sl M)).symm)
    · cases hs
  · have hk := am_chk_of hi
    unfold am_f27 at hs
    split at hs
    · split at hs
      · rename_i h0
        cases hs
        exact am_s27 C hk.1 (fun _ => (k cells slots (am_c0 cells (am_sz M)).symm (am_c0 slots (am_sl M)).symm)) (fun h => absurd h0 h)
      · rename_i h0
        cases hs
        exact am_s27 C hk.1 (fun h => absurd h h0) (fun _ => (k cells slots (am_c0 cells (am_sz M)).symm (am_c0 slots (am_sl M)).symm))
    · cases hs
  · have hk := am_chk_of hi
    unfold am_f28 at hs
    split at hs
    · split at hs
      · rename_i h0
        cases hs
        exact am_s28 C hk.1 (fun _ => (k cells slots (am_c0 cells (am_sz M)).symm (am_c0 slots (am_sl M)).symm)) (fun h => absurd h0 h)
      · rename_i h0
        cases hs
        exact am_s28 C hk.1 (fun h => absurd h h0) (fun _ => (k cells slots (am_c0 cells (am_sz M)).symm (am_c0 slots (am_sl M)).symm))
    · cases hs
  · have hk := am_chk_of hi
    unfold am_f29 at hs
    split at hs
    · split at hs
      · rename_i h0
        cases hs
        exact am_s29 C hk.1 (fun _ => (k cells slots (am_c0 cells (am_sz M)).symm (am_c0 slots (am_sl M)).symm)) (fun h => absurd h0 h)
      · rename_i h0
        cases hs
        exact am_s29 C hk.1 (fun h => absurd h h0) (fun _ => (k cells slots (am_c0 cells (am_sz M)).symm (am_c0 slots (am_sl M)).symm))
    · cases hs
  · have hk := am_chk_of hi
    unfold am_f30 at hs
    split at hs
    · split at hs
      · rename_i h0
        cases hs
        exact am_s30 C hk.1 (fun _ => (k cells slots (am_c0 cells (am_sz M)).symm (am_c0 slots (am_sl M)).symm)) (fun h => absurd h0 h)
      · rename_i h0
        cases hs
        exact am_s30 C hk.1 (fun h => absurd h h0) (fun _ => (k cells slots (am_c0 cells (am_sz M)).symm (am_c0 slots (am_sl M)).symm))
    · cases hs
  · have hk := am_chk_of hi
    cases hs
    exact am_s31 C hk.1 (k cells slots (am_c0 cells (am_sz M)).symm (am_c0 slots (am_sl M)).symm)
  · have hk := am_chk_of hi
    unfold am_f32 at hs
    split at hs
    · split at hs
      · cases hs
      · rename_i h0
        cases hs
        exact am_s32 C hk.1 h0 (k cells slots (am_c0 cells (am_sz M)).symm (am_c0 slots (am_sl M)).symm)
    · cases hs
  · have hk := am_chk_of hi
    unfold am_f33 at hs
    split at hs
    · split at hs
      · rename_i h0
        obtain ⟨h1, h2⟩ := h0
        cases hs
        exact am_s33 C hk.1 h1 h2 (k cells slots (am_c0 cells (am_sz M)).symm (am_c0 slots (am_sl M)).symm)
      · cases hs
    · cases hs
  · have hk := am_chk_of hi
    unfold am_f34 at hs
    split at hs
    · split at hs
      · rename_i h0
        obtain ⟨rfl, h1, h2⟩ := h0
        cases hs
        exact am_s34 C hk.1 h1 h2 (k cells slots (am_c0 cells (am_sz M)).symm (am_c0 slots (am_sl M)).symm)
      · cases hs
    · cases hs
  · have hk := am_chk_of hi
    unfold am_f35 at hs
    split at hs
    · split at hs
      · rename_i h0
        obtain ⟨h1, h2⟩ := h0
        cases hs
        exact am_s35 C hk.1 h1 h2 (k cells slots (am_c0 cells (am_sz M)).symm (am_c0 slots (am_sl M)).symm)
      · cases hs
    · cases hs
  · have hk := am_chk_of hi
    unfold am_f36 at hs
    split at hs
    · split at hs
      · rename_i h0
        obtain ⟨h3, rfl, h1, h2⟩ := h0
        cases hs
        exact am_s36 C hk.1 h3 h1 h2 (k cells slots (am_c0 cells (am_sz M)).symm (am_c0 slots (am_sl M)).symm)
      · cases hs
    · cases hs
  · have hk := am_chk_of hi
    unfold am_f37 at hs
    split at hs
    · split at hs
      · rename_i h0
        obtain ⟨h1, h2⟩ := h0
        cases hs
        exact am_s37 C hk.1 h1 h2 (k cells slots (am_c0 cells (am_sz M)).symm (am_c0 slots (am_sl M)).symm)
      · cases hs
    · cases hs
  · have hk := am_chk_of hi
    unfold am_f38 at hs
    split at hs
    · split at hs
      · rename_i h0
        obtain ⟨rfl, rfl, h1, h2⟩ := h0
        cases hs
        exact am_s38 C hk.1 h1 h2 (k cells slots (am_c0 cells (am_sz M)).symm (am_c0 slots (am_sl M)).symm)
      · cases hs
    · cases hs
  · have hk := am_chk_of hi
    unfold am_f39 at hs
    split at hs
    · split at hs
      · rename_i h0
        obtain ⟨rfl, h1⟩ := h0
        cases hs
        have hq := hk.2
        simp only [am_lk, Bool.and_eq_true, decide_eq_true_eq] at hq
        exact am_s39 C hk.1 hq.1.1.1 hq.1.1.2 hq.1.2 h1 hq.2 (by have h9 : cells + (am_sz M + 1 - am_sz M) ≤ R.cells := hc; omega) (by have h9 : slots + (am_sl M + am_ln _ 0 - am_sl M) ≤ R.slots := hsl; omega) (k (cells + 1) (slots + am_ln _ 0) (am_c1 cells (am_sz M) 1).symm (am_c1 slots (am_sl M) (am_ln _ 0)).symm)
      · cases hs
    · cases hs
  · have hk := am_chk_of hi
    unfold am_f40 at hs
    split at hs
    · split at hs
      · rename_i h0
        obtain ⟨rfl, h1⟩ := h0
        cases hs
        have hq := hk.2
        simp only [am_lk] at hq
        split at hq
        · rename_i C0 hC0
          simp only [Bool.and_eq_true, decide_eq_true_eq] at hq
          exact am_s40 C hk.1 hC0 hq.1.1.1 hq.1.1.2 hq.1.2 h1 hq.2 (by have h9 : cells + (am_sz M + 1 - am_sz M) ≤ R.cells := hc; omega) (by have h9 : slots + (am_sl M + am_ln _ 0 - am_sl M) ≤ R.slots := hsl; omega) (k (cells + 1) (slots + am_ln _ 0) (am_c1 cells (am_sz M) 1).symm (am_c1 slots (am_sl M) (am_ln _ 0)).symm)
        · cases hq
      · cases hs
    · cases hs
  · have hk := am_chk_of hi
    unfold am_f41 at hs
    split at hs
    · split at hs
      · rename_i h0
        subst h0
        cases hs
        have hq := hk.2
        simp only [am_lk, Bool.and_eq_true, decide_eq_true_eq] at hq
        exact am_s41 C hk.1 hq.1 hq.2 (k cells slots (am_c0 cells (am_sz M)).symm (am_c0 slots (am_sl M)).symm)
      · cases hs
    · cases hs
  · have hk := am_chk_of hi
    unfold am_f42 at hs
    split at hs
    · split at hs
      · rename_i h0
        subst h0
        cases hs
        have hq := hk.2
        simp only [am_lk, Bool.and_eq_true, decide_eq_true_eq] at hq
        exact am_s42 C hk.1 hq.1 hq.2 (k cells slots (am_c0 cells (am_sz M)).symm (am_c0 slots (am_sl M)).symm)
      · cases hs
    · cases hs
  · have hk := am_chk_of hi
    unfold am_f43 at hs
    split at hs
    · split at hs
      · rename_i h0
        subst h0
        cases hs
        have hq := hk.2
        simp only [am_lk, Bool.and_eq_true, decide_eq_true_eq] at hq
        exact am_s43 C hk.1 hq.1.1 (fun r hr => am_fin0 hr hq.2) hq.1.2 (k cells slots (am_c0 cells (am_sz M)).symm (am_c0 slots (am_sl M)).symm)
      · cases hs
    · cases hs
  · have hk := am_chk_of hi
    unfold am_f44 at hs
    split at hs
    · split at hs
      · rename_i h0
        obtain ⟨h1, rfl⟩ := h0
        cases hs
        have hq := hk.2
        simp only [am_lk, Bool.and_eq_true, decide_eq_true_eq] at hq
        exact am_s44 C hk.1 hq.1.1 (fun r hr => am_fin0 hr hq.2) hq.1.2 h1 (k cells slots (am_c0 cells (am_sz M)).symm (am_c0 slots (am_sl M)).symm)
      · cases hs
    · cases hs
  · have hk := am_chk_of hi
    unfold am_f45 at hs
    split at hs
    · split at hs
      · rename_i h0
        obtain ⟨rfl, rfl⟩ := h0
        cases hs
        have hq := hk.2
        simp only [am_lk, Bool.and_eq_true, decide_eq_true_eq] at hq
        exact am_s45 C hk.1 hq.1.1.1 (fun r hr => am_fin0 hr hq.2) hq.1.1.2 hq.1.2 (k cells slots (am_c0 cells (am_sz M)).symm (am_c0 slots (am_sl M)).symm)
      · cases hs
    · cases hs
  · have hk := am_chk_of hi
    unfold am_f43 at hs
    split at hs
    · split at hs
      · rename_i h0
        subst h0
        cases hs
        have hq := hk.2
        simp only [am_lk, Bool.and_eq_true, decide_eq_true_eq] at hq
        exact am_s46 C hk.1 hq.1.1.1 hq.1.1.2 (fun r hr => am_fin1 hr hq.2) hq.1.2 (k cells slots (am_c0 cells (am_sz M)).symm (am_c0 slots (am_sl M)).symm)
      · cases hs
    · cases hs
  · have hk := am_chk_of hi
    unfold am_f45 at hs
    split at hs
    · split at hs
      · rename_i h0
        obtain ⟨rfl, rfl⟩ := h0
        cases hs
        have hq := hk.2
        simp only [am_lk, Bool.and_eq_true, decide_eq_true_eq] at hq
        exact am_s47 C hk.1 hq.1.1.1.1 hq.1.1.1.2 (fun r hr => am_fin1 hr hq.2) hq.1.1.2 hq.1.2 (k cells slots (am_c0 cells (am_sz M)).symm (am_c0 slots (am_sl M)).symm)
      · cases hs
    · cases hs
  · have hk := am_chk_of hi
    cases hs
    have hq := hk.2
    simp only [am_lk] at hq
    split at hq
    · rename_i r hr
      simp only [Bool.and_eq_true, decide_eq_true_eq] at hq
      obtain ⟨⟨⟨⟨⟨⟨q1, q2⟩, q3⟩, q4⟩, q5⟩, q6⟩, q7⟩ := hq
      exact am_s48 C hk.1 hr q1 q2 q3 q4 q5 q6 (am_nf_df q7) (by have h9 : cells + (am_sz M + 1 - am_sz M) ≤ R.cells := hc; omega) (by have h9 : slots + (am_sl M + am_nf _ - am_sl M) ≤ R.slots := hsl; omega) (k (cells + 1) (slots + am_nf _) (am_c1 cells (am_sz M) 1).symm (am_c1 slots (am_sl M) (am_nf _)).symm)
    · cases hq
  · have hk := am_chk_of hi
    unfold am_f49 at hs
    split at hs
    · split at hs
      · rename_i h0
        cases hs
        have hq := hk.2
        simp only [am_lk, Bool.and_eq_true, decide_eq_true_eq] at hq
        exact am_s49 C hk.1 hq.1 hq.2 am_oi h0 hfr hlo (k cells slots (am_c0 cells (am_sz M)).symm (am_c0 slots (am_sl M)).symm)
      · cases hs
    · cases hs
  · have hk := am_chk_of hi
    unfold am_f50 at hs
    split at hs
    · cases hs
      exact am_s50x C hk.1 hk.2 (k cells slots (am_c0 cells (am_sz M)).symm (am_c0 slots (am_sl M)).symm)
    · cases hs
  · have hk := am_chk_of hi
    unfold am_f51 at hs
    split at hs
    · split at hs
      · rename_i h0
        cases hs
        have hq := hk.2
        simp only [am_lk, Bool.and_eq_true, decide_eq_true_eq] at hq
        exact am_s51 C hk.1 hq.1.1 hq.1.2 hq.2 am_mi0 h0 hfr hlo (by have h9 : cells + (am_sz M - am_sz M) ≤ R.cells := hc; omega) (by have h9 : slots + (am_sl M - am_sl M) ≤ R.slots := hsl; omega) (k cells slots (am_c0 cells (am_sz M)).symm (am_c0 slots (am_sl M)).symm)
      · cases hs
    · cases hs
  · cases hs
def am_le (M M' : am_M) : Prop := am_sz M ≤ am_sz M' ∧ am_sl M ≤ am_sl M' ∧ ((∀ a, am_tg M a ≠ 0 → a < am_sz M) → (∀ a, am_tg M' a ≠ 0 → a < am_sz M') ∧ ∀ a, am_tg M a ≠ 0 → am_tg M' a = am_tg M a)
theorem am_le_rf (M : am_M) : am_le M M := ⟨Nat.le_refl _, Nat.le_refl _, fun h => ⟨h, fun _ _ => rfl⟩⟩
theorem am_le_tr {M1 M2 M3 : am_M} (h1 : am_le M1 M2) (h2 : am_le M2 M3) : am_le M1 M3 := ⟨Nat.le_trans h1.1 h2.1, Nat.le_trans h1.2.1 h2.2.1, fun h => ⟨(h2.2.2 (h1.2.2 h).1).1, fun a ha => by
  have g := (h1.2.2 h).2 a ha
  rw [(h2.2.2 (h1.2.2 h).1).2 a (by rw [g]; exact ha), g]⟩⟩
theorem am_le_al (M : am_M) (t n : Nat) : am_le M (am_al M t n) := ⟨Nat.le_add_right _ _, Nat.le_add_right _ _, fun h => ⟨fun a ha => by
  show a < am_sz M + 1
  by_cases hs : a = am_sz M
  · omega
  · have h1 : am_tg (am_al M t n) a = am_tg M a := by simp [am_tg, am_al, hs]
    rw [h1] at ha
    have := h a ha
    omega, fun a ha => by
  have hs : a ≠ am_sz M := fun q => by have := h a ha; omega
  simp [am_tg, am_al, hs]⟩⟩
theorem am_le_wt {D : va_G} {s : State} {base : Nat} {M M' : am_M} {H : Heap} {l : List am_V} (h : am_le M M') (hR : am_Rep D s base M H) (hw : am_wt M l) : am_wt M' l :=
  am_wt_to (h.2.2 (fun a ha => by rw [← hR.1]; exact am_cell_lt (hR.2.2.1 a ha).2)).2 hw
set_option maxHeartbeats 4000000 in
theorem am_tl_le {i : am_I} {q : am_S} (hs : am_tl i pc lo st M = some q) : am_le M q.2.2.2 := by
  unfold am_tl at hs
  split at hs <;> (try unfold am_f1 at hs) <;> (try unfold am_f3 at hs) <;> (try unfold am_f5 at hs) <;> (try unfold am_f7 at hs) <;> (try unfold am_f9 at hs) <;> (try unfold am_f13 at hs) <;> (try unfold am_f21 at hs) <;> (try unfold am_f22 at hs) <;> (try unfold am_f25 am_br at hs) <;> (try unfold am_f26 am_br at hs) <;> (try unfold am_f27 at hs) <;> (try unfold am_f28 at hs) <;> (try unfold am_f29 at hs) <;> (try unfold am_f30 at hs) <;> (try unfold am_f32 at hs) <;> (try unfold am_f33 at hs) <;> (try unfold am_f34 at hs) <;> (try unfold am_f35 at hs) <;> (try unfold am_f36 at hs) <;> (try unfold am_f37 at hs) <;> (try unfold am_f38 at hs) <;> (try unfold am_f39 at hs) <;> (try unfold am_f40 at hs) <;> (try unfold am_f41 at hs) <;> (try unfold am_f42 at hs) <;> (try unfold am_f43 at hs) <;> (try unfold am_f44 at hs) <;> (try unfold am_f45 at hs) <;> (try unfold am_f49 at hs) <;> (try unfold am_f50 at hs) <;> (try unfold am_f51 at hs) <;> (try split at hs) <;> (try split at hs) <;> (try split at hs) <;> cases hs <;> first | exact am_le_rf M | exact am_le_al M _ _
theorem am_run_le (n : Nat) : ∀ (y pc : Nat) (lo st : List am_V) (M : am_M) (r : Option am_V) (M' : am_M), am_run n y pc lo st M = some (r, M') → am_le M M' := by
  induction n with
  | zero => intro y pc lo st M r M' h; simp [am_run] at h
  | succ n ih =>
    intro y pc lo st M r M' h
    rw [am_run] at h
    cases hi : am_ins y pc with
    | none => rw [hi] at h; cases h
    | some i =>
      rw [hi] at h
      dsimp only at h
      by_cases h1 : i.1 < 60
      · rw [if_pos h1] at h
        cases ht : am_tl i pc lo st M with
        | none => rw [ht] at h; cases h
        | some q =>
          rw [ht] at h
          exact am_le_tr (am_tl_le ht) (ih _ _ _ _ _ _ _ h)
      · rw [if_neg h1] at h
        by_cases h2 : i.1 < 70
        · rw [if_pos h2] at h
          cases hc : am_ca i st with
          | none => rw [hc] at h; cases h
          | some q =>
            rw [hc] at h
            dsimp only at h
            cases hr : am_run n q.1 0 q.2.1 [] M with
            | none => rw [hr] at h; cases h
            | some r1 =>
              rw [hr] at h
              exact am_le_tr (ih _ _ _ _ _ _ _ hr) (ih _ _ _ _ _ _ _ h)
        · rw [if_neg h2] at h
          cases hc : am_rf i.1 st with
          | none => rw [hc] at h; cases h
          | some r1 => rw [hc] at h; cases h; exact am_le_rf M
-- an end
def am_re (y : Nat) (r : Option am_V) (pc : Nat) : Prop := match r with
  | none => decode (am_cd y) pc = .ok (.return_, 1) ∧ am_rt y = none
  | some (.inl v) => decode (am_cd y) pc = .ok (.ireturn, 1) ∧ ∃ ty, am_rt y = some ty ∧ narrow ty (.int v) = .int v
  | some (.inr _) => decode (am_cd y) pc = .ok (.areturn, 1) ∧ ∃ n, am_rt y = some (.object n)
def am_Fin (p : Program) (l : Launch) (e : Env) (R : Room) (s : State) (m : MethodId) (args : Array Value) (below : List Frame) (meth : Method) (c : Code) (Q : State → Prop) (D : va_G) (base y : Nat) (r : Option am_V) (M : am_M) (cells slots : Nat) : Prop :=
  ∀ (H : Heap) (locs : List Loc) (ls : Array Slot) (pc : Nat), am_Rep D s base M H → (∀ q ∈ locs, base ≤ q.base) → am_re y r pc → am_wt M r.toList → W p l e R s m args below meth c H locs cells slots Q (F0 m pc ls (r.toList.map am_v))
def am_Snd (n : Nat) : Prop := ∀ (y pc : Nat) (lo st : List am_V) (M : am_M) (r : Option am_V) (M' : am_M), am_run n y pc lo st M = some (r, M') → ∀ (p : Program) (l : Launch) (e : Env) (R : Room) (s : State) (m : MethodId) (args : Array Value) (below : List Frame) (meth : Method) (c : Code) (Q : State → Prop) (D : va_G) (base cells slots : Nat), am_At p s m args meth c D y → am_lv y ≤ R.frames → 40 * am_lv y ≤ R.locals → cells + (am_sz M' - am_sz M) ≤ R.cells → slots + (am_sl M' - am_sl M) ≤ R.slots →
  am_Fin p l e R s m args below meth c Q D base y r M' (cells + (am_sz M' - am_sz M)) (slots + (am_sl M' - am_sl M)) → am_Ok p l e R s m args below meth c Q D base y pc lo st M cells slots
theorem am_rfs {i : am_I} {r : Option am_V} (hi : am_ins y pc = some i) (h6 : ¬ i.1 < 60) (h7 : ¬ i.1 < 70) (hs : am_rf i.1 st = some r) : am_re y r pc ∧ st = r.toList := by
  have hk := am_chk_of hi
  obtain ⟨op, x, k1, z, w, v⟩ := i
  dsimp only at hs h6 h7
  unfold am_rf at hs
  split at hs
  · cases hs
    have hq := hk.2
    simp only [am_lk, decide_eq_true_eq] at hq
    exact ⟨⟨hk.1, _, hq, rfl⟩, rfl⟩
  · split at hs
    · rename_i h0
      cases hs
      have hq := hk.2
      simp only [am_lk, decide_eq_true_eq] at hq
      exact ⟨⟨hk.1, _, hq, by rcases h0 with rfl | rfl <;> rfl⟩, rfl⟩
    · cases hs
  · cases hs
    have hq := hk.2
    simp only [am_lk] at hq
    split at hq
    · rename_i n hn
      exact ⟨⟨hk.1, n, hn⟩, rfl⟩
    · cases hq
  · cases hs
    have hq := hk.2
    simp only [am_lk, decide_eq_true_eq] at hq
    exact ⟨⟨hk.1, hq⟩, rfl⟩
  · cases hs
-- a method's contract out of its run
def am_wy (y : Nat) : List Jvm.Cond := .code (am_nm y) (am_cd y) (am_mx y) (am_rt y) :: am_ws
def am_rm (y mc ms : Nat) : Room := { frames := am_lv y, cells := mc, slots := ms, locals := 40 * am_lv y }
def am_Pc (D : va_G) (base : Nat) (M : am_M) (av : List am_V) : Array Value → State → Prop := va_Pc (av.map am_v) (fun U => am_Rep D U base M U.heap ∧ am_K D U)
def am_Qc (D : va_G) (base : Nat) (M : am_M) (r : Option am_V) : Array Value → State → Outcome → State → Prop := fun _ _ oc t => oc = .returned (r.map am_v) ∧ am_Rep D t base M t.heap
theorem am_args_mem (av : List am_V) : ∀ (k i : Nat) (v : am_V), av[i]? = some v → (k + i, am_v v) ∈ lv_args k (av.map am_v) := by
  induction av with
  | nil => intro k i v h; simp at h
  | cons w av ih =>
    intro k i v h
    rw [List.map_cons, lv_args, if_neg (by rw [am_v_cat]; decide)]
    cases i with
    | zero =>
      rw [List.getElem?_cons_zero] at h
      cases h
      exact List.mem_cons_self
    | succ i =>
      rw [List.getElem?_cons_succ] at h
      have h1 := ih (k + 1) i v h
      rw [show k + 1 + i = k + (i + 1) by omega] at h1
      exact List.mem_cons_of_mem _ h1
theorem am_sl_len (av : List am_V) : (lg_sl (av.map am_v)).length = av.length := by
  induction av with
  | nil => rfl
  | cons w av ih =>
    have h1 : lg_sl (am_v w :: av.map am_v) = [.val (am_v w)] ++ lg_sl (av.map am_v) := by
      simp only [lg_sl, List.flatMap_cons]
      rw [if_neg (by rw [am_v_cat]; decide)]
    rw [List.map_cons, h1, List.length_append, ih, List.length_cons]
    simp; omega
theorem am_entry {av : List am_V} {n : Nat} (h : av.length ≤ n) : am_lo ((lg_sl (av.map am_v) ++ List.replicate (n - (lg_sl (av.map am_v)).length) Slot.unset).toArray) (av ++ List.replicate (n - av.length) am_u) n := by
  have hl := lv_entry (av.map am_v) (n := n) (by rw [am_sl_len]; exact h)
  refine ⟨hl.1, hl.2.1, by simp; omega, fun i v hi hv => ?_⟩
  by_cases hlt : i < av.length
  · rw [List.getElem?_append_left hlt] at hi
    have h1 := am_args_mem av 0 i v hi
    rw [Nat.zero_add] at h1
    exact hl.2.2 _ h1
  · rw [List.getElem?_append_right (by omega)] at hi
    exact absurd (List.eq_of_mem_replicate (List.mem_of_getElem? hi)) hv
theorem am_wt_rep {M : am_M} {av : List am_V} {n : Nat} (h : am_wt M av) : am_wt M (av ++ List.replicate n am_u) := fun v hv => by
  rcases List.mem_append.mp hv with h1 | h1
  · exact h v h1
  · rw [List.eq_of_mem_replicate h1]
    exact am_wv_u M
theorem am_ofW {l : Launch} {y : MethodName} {ws ws' : List Jvm.Cond} {rm : Room} {Pc : Array Value → State → Prop} {Qc : Array Value → State → Outcome → State → Prop} {mc ms : Nat} {free : Addr → Prop} {cc : ByteArray} {maxL : Nat} {ret : Option FieldType}
    (hy : plainFor y = true) (hw : ws = Jvm.Cond.code y cc maxL ret :: ws')
    (body : ∀ p e s m args below meth c s₁, BodyLoose p l y (headSpec ws rm) cc maxL ret e s m args below meth c s₁ → c.maxLocals = maxL → Pc args s →
      W p l e (headSpec ws rm).room s m args below meth c s.heap [] 0 0 (MQ below Qc args s mc ms free) (entryFrame m args maxL)) : Met l y ws rm Pc Qc mc ms free := by
  refine MetFree.of_bodySF (code := cc) (maxLocals := maxL) (ret := ret) hy ?_ ?_
  · intro args s m h hn
    obtain ⟨meth, c, h1, h2, h3, h4, h5, h6, -, -⟩ := Cond.code_spec hn (atoms_spec (ws := ws) h _ (by rw [hw]; exact List.mem_cons_self))
    exact ⟨meth, c, h1, h2, h3, h4, h5, h6⟩
  · intro p e s m args below meth c s₁ B hml hP _
    have hh0 : s₁.heap = s.heap := by rw [B.state]; rfl
    obtain ⟨t, a1, o, b1, b2, b3⟩ := body p e s m args below meth c s₁ B hml hP s₁ hh0 (Stand.of_body B)
    exact ⟨t, o, a1, b1, b2, ⟨b3.1, b3.2⟩⟩
set_option maxHeartbeats 4000000 in
theorem am_met {n : Nat} (IH : am_Snd n) {y : Nat} {av : List am_V} {M M' : am_M} {r : Option am_V} {D : va_G} {base : Nat} (l : Launch) (hpl : plainFor (am_nm y) = true) (hlen : av.length ≤ am_mx y) (hwt : am_wt M av) (hrun : am_run n y 0 (av ++ List.replicate (am_mx y - av.length) am_u) [] M = some (r, M')) :
    Met l (am_nm y) (am_wy y) (am_rm y (am_sz M' - am_sz M) (am_sl M' - am_sl M)) (am_Pc D base M av) (fun a st oc t => am_Qc D base M' r a st oc t ∧ am_wt M' r.toList) (am_sz M' - am_sz M) (am_sl M' - am_sl M) (fun q => base ≤ q) := by
  refine am_ofW (cc := am_cd y) (maxL := am_mx y) (ret := am_rt y) hpl rfl ?_
  intro p e s m args below meth c s₁ B hml hv
  obtain ⟨rfl, hRep, hK⟩ := hv
  have hts := atoms_spec (ws := am_wy y) B.pre
  have hlocks := B.notSynchronized
  have C : am_At p s m (av.map am_v).toArray meth c D y := ⟨B.exec, B.bytes, hml, findClass_of_methodNamed B.named, fun w hw => hts w (List.mem_cons_of_mem _ hw), fun h => by rw [(name_of_methodNamed B.named B.method).1]; exact h, hK⟩
  have hr := B.returns
  rw [lg_entry_eq]
  refine IH y 0 _ [] M r M' hrun p l e _ s m _ below meth c _ D base 0 0 C (Nat.le_refl _) (Nat.le_refl _) (by show 0 + _ ≤ _; rw [Nat.zero_add]; exact Nat.le_refl _) (by show 0 + _ ≤ _; rw [Nat.zero_add]; exact Nat.le_refl _) ?_ s.heap [] _ hRep (am_entry hlen) (am_wt_rep hwt) (fun v hv => by cases hv) (fun q hq => by cases hq)
  rw [Nat.zero_add, Nat.zero_add]
  intro H locs ls pc hR hf hre hwr
  have hq : ∀ t : State, t.heap = H → s.WarmedH t.vm → am_Qc D base M' r (av.map am_v).toArray s (.returned (r.map am_v)) t ∧ am_wt M' r.toList := fun t ht hW => ⟨⟨rfl, by rw [ht]; exact hR.moved hW.alike⟩, hwr⟩
  match r, hre, hq with
  | none, hre, hq => exact W.vret C.1 C.2.1 (by rw [hr]; exact hre.2) hq hf hre.1 hlocks
  | some (.inl v), hre, hq =>
    obtain ⟨h1, ty, h2, h3⟩ := hre
    exact W.zret C.1 C.2.1 (by rw [hr]; exact h2) h3 hq hf h1 hlocks
  | some (.inr (.inl q)), hre, hq =>
    obtain ⟨h1, n0, h2⟩ := hre
    refine W.aret C.1 C.2.1 (by rw [hr]; exact h2) (Or.inl ⟨n0, rfl⟩) ?_ hq hf h1 hlocks
    obtain ⟨t0, o⟩ := q
    cases o with
    | none => exact Or.inl rfl
    | some a => exact Or.inr ⟨a, rfl⟩
  | some (.inr (.inr u)), hre, hq =>
    obtain ⟨h1, n0, h2⟩ := hre
    exact W.aret C.1 C.2.1 (by rw [hr]; exact h2) (Or.inl ⟨n0, rfl⟩) (Or.inl rfl) hq hf h1 hlocks
theorem am_good_ws {y : Nat} (h : Jvm.Cond.code (am_nm y) (am_cd y) (am_mx y) (am_rt y) ∈ am_ws) : GoodIn am_ws (am_wy y) := fun w hw => by
  have hm : w ∈ am_ws := by
    rcases List.mem_cons.mp hw with h1 | h1
    · rw [h1]; exact h
    · exact h1
  exact ⟨hm, am_ws_good w hm⟩
theorem am_blind {D : va_G} {base : Nat} {M : am_M} {av : List am_V} : FrameBlind (am_Pc D base M av) := fun a U g mk q => by
  obtain ⟨h1, h2, h3⟩ := q
  exact ⟨h1, am_Rep.moved (u := U) (U := U.calling g mk a) (Vm.Alike.refl U.vm) h2, h3.calling⟩
set_option maxHeartbeats 4000000 in
theorem am_back {r : Option am_V} {M' : am_M} {st' : List am_V} {H0 : Heap} {a : Array Value} {locs : List Loc} {ls : Array Slot} {st0 : List Value} {mc ms : Nat} {lo : List am_V} (hf : ∀ q ∈ locs, base ≤ q.base) (hL : am_lo ls lo (am_mx y)) (hwl : am_wt M' lo) (hws : am_wt M' st')
    (hr : va_Run p l e R s m args below meth c H0 locs cells slots mc ms (F0 m pc ls st0) (st'.map am_v) (fun st oc t => am_Qc D base M' r a st oc t ∧ am_wt M' r.toList) (fun q => base ≤ q))
    (k : am_Ok p l e R s m args below meth c Q D base y (pc + 3) lo (r.toList ++ st') M' (cells + mc) (slots + ms)) : W p l e R s m args below meth c H0 locs cells slots Q (F0 m pc ls st0) := by
  intro T hT X
  obtain ⟨v, st₀, t, T', L, h0, X', hLq, e1, e2, ⟨⟨hv, hR⟩, hwr⟩, stp⟩ := hr T hT X
  have hv' : v = r.map am_v := by cases hv; rfl
  subst hv'
  have hR' : am_Rep D s base M' T'.heap := by
    rw [e1]
    exact hR.moved (by rw [← e2]; exact X'.warmed.alike.symm)
  obtain ⟨t2, a1, b1⟩ := k T'.heap (locs ++ L) ls hR' hL hwl (fun w hw => by
      rcases List.mem_append.mp hw with h | h
      · exact hwr w h
      · exact hws w h) (fun q hq => by
      rcases List.mem_append.mp hq with h | h
      · exact hf q h
      · exact hLq q h) T' rfl X'
  refine ⟨t2, stp t2 ?_, b1⟩
  have e3 : (r.toList ++ st').map am_v = (r.map am_v).toList ++ st'.map am_v := by
    rw [List.map_append]
    cases r <;> rfl
  rw [e3] at a1
  exact a1

theorem am_callB {x k z w n mc ms : Nat} (C : am_At p s m args meth c D y) (h : am_lkc y x k z w n = true) (hfr : am_lv y ≤ R.frames) (hlo : 40 * am_lv y ≤ R.locals) : CallB R s args (am_nm y).cls w (am_nm x) (am_cd x) (am_mx x) (am_rt x) (am_wy x) (am_rm x mc ms) mc ms n := by
  simp only [am_lkc, Bool.and_eq_true, decide_eq_true_eq] at h
  obtain ⟨⟨⟨⟨⟨⟨⟨⟨⟨⟨h1, h2⟩, h3⟩, h4⟩, h5⟩, h6⟩, h7⟩, h8⟩, h9⟩, h10⟩, h11⟩ := h
  exact callB_of n C.2.2.2.2.1 (am_good_ws (am_code x h6)) rfl rfl rfl (C.2.2.2.2.1 _ h8) (C.2.2.2.2.1 _ h7) ⟨h9, h10, h11⟩ ⟨by show am_lv x + 1 ≤ R.frames; omega, by show 8 + (am_mx x + 11) + 40 * am_lv x ≤ R.locals; omega⟩
theorem am_callN {x k z w n mc ms : Nat} (C : am_At p s m args meth c D y) (h : am_lkd y x k z n = true) (hnw : ((am_nm y).cls, w, am_nm x, am_host) ∈ am_nw) (hfr : am_lv y ≤ R.frames) (hlo : 40 * am_lv y ≤ R.locals) : va_CN R s args (am_nm y).cls w (am_nm x) am_host (am_cd x) (am_mx x) (am_rt x) (am_wy x) (am_rm x mc ms) mc ms n := by
  simp only [am_lkd, Bool.and_eq_true, decide_eq_true_eq] at h
  obtain ⟨⟨⟨⟨⟨⟨⟨⟨⟨h1, h2⟩, h3⟩, h4⟩, h5⟩, h6⟩, h8⟩, h9⟩, h10⟩, h11⟩ := h
  exact va_cnB n C.2.2.2.2.1 (am_good_ws (am_code x h6)) rfl rfl rfl (C.2.2.2.2.2.2.2.1 _ hnw) (C.2.2.2.2.1 _ h8) ⟨h9, h10, h11⟩ ⟨by show am_lv x + 1 ≤ R.frames; omega, by show 8 + (am_mx x + 11) + 40 * am_lv x ≤ R.locals; omega⟩
theorem am_cfs {i : am_I} {q : Nat × List am_V × List am_V} (h : am_cf i st = some q) : q.1 = i.2.1 ∧ q.2.1 = (st.take i.2.2.1).reverse ++ List.replicate (i.2.2.2.1 - i.2.2.1) am_u ∧ q.2.2 = st.drop i.2.2.1 ∧ i.2.2.1 ≤ st.length ∧ q.2.2.length ≤ 8 := by
  unfold am_cf at h
  split at h
  · rename_i h0
    cases h
    exact ⟨rfl, rfl, rfl, h0.1, h0.2⟩
  · cases h
theorem am_wt_app {M : am_M} {a b : List am_V} (h : am_wt M (a ++ b)) : am_wt M a ∧ am_wt M b := ⟨fun v hv => h v (List.mem_append_left _ hv), fun v hv => h v (List.mem_append_right _ hv)⟩
theorem am_wt_rev {M : am_M} {a : List am_V} (h : am_wt M a.reverse) : am_wt M a := fun v hv => h v (List.mem_reverse.mpr hv)
set_option maxHeartbeats 4000000 in
theorem am_s61 {n x k z w : Nat} {st' av : List am_V} {r : Option am_V} {M' : am_M} (IH : am_Snd n) (C : am_At p s m args meth c D y) (hd : decode (am_cd y) pc = .ok (.invokestatic w, 3)) (hlk : am_lkc y x k z w k = true) (hst : Jvm.Cond.static (am_nm x) ∈ am_ws) (hav : av.length = k) (h8 : st'.length ≤ 8) (hrun : am_run n x 0 (av ++ List.replicate (z - k) am_u) [] M = some (r, M')) (hfr : am_lv y ≤ R.frames) (hlo : 40 * am_lv y ≤ R.locals) (hc : cells + (am_sz M' - am_sz M) ≤ R.cells) (hs : slots + (am_sl M' - am_sl M) ≤ R.slots)
    (kk : am_Ok p l e R s m args below meth c Q D base y (pc + 3) lo (r.toList ++ st') M' (cells + (am_sz M' - am_sz M)) (slots + (am_sl M' - am_sl M))) : am_Ok p l e R s m args below meth c Q D base y pc lo (av.reverse ++ st') M cells slots := by
  have hq := hlk
  simp only [am_lkc, Bool.and_eq_true, decide_eq_true_eq] at hq
  obtain ⟨⟨⟨⟨⟨⟨⟨⟨⟨⟨h1, h2⟩, h3⟩, h4⟩, h5⟩, h6⟩, h7⟩, h8'⟩, h9⟩, h10⟩, h11⟩ := hq
  subst h2
  subst hav
  intro H locs ls hR hL hwl hws hf
  have hle := am_run_le _ _ _ _ _ _ _ _ hrun
  have hw2 := am_wt_app hws
  refine am_back (M' := M') (st' := st') hf hL (am_le_wt hle hR hwl) (am_le_wt hle hR hw2.2) (va_runS (As := av.map am_v) ⟨C.1, C.2.1, C.2.2.1, C.2.2.2.1, C.2.2.2.2.1⟩ (am_met IH l h1 h3 (am_wt_rev hw2.1) hrun) ⟨am_callB C hlk hfr hlo, C.2.2.2.2.1 _ hst⟩ ⟨am_blind, fun U hU hW => ⟨rfl, by rw [hU]; exact hR.moved hW.alike, C.2.2.2.2.2.2.moved hW⟩⟩ rfl (by rw [List.length_map]) hL.1 (by show (av.reverse ++ st').map am_v = _; rw [List.map_append, List.map_reverse]) (lv_room (by rw [am_v_sum]; exact h8)) hd ⟨hc, hs⟩) kk
set_option maxHeartbeats 4000000 in
theorem am_s60 {n x k z w v a : Nat} {st' av : List am_V} {r : Option am_V} {M' : am_M} {C0 : vw_C} (IH : am_Snd n) (C : am_At p s m args meth c D y) (hd : decode (am_cd y) pc = .ok (.invokevirtual w, 3)) (hlk : am_lkc y x (k + 1) z w k = true) (hin : Jvm.Cond.instanceMethod (am_nm x) ∈ am_ws) (hsel : Jvm.Cond.selects (am_nm x).cls (am_nm x) (am_nm x) ∈ am_ws) (hcl : am_cl[am_ci v]? = some C0) (hC0 : C0.1 = (am_nm x).cls) (hak : am_ak v = 0) (hav : av.length = k) (h8 : st'.length ≤ 8) (hrun : am_run n x 0 (.inr (.inl (v, some a)) :: av ++ List.replicate (z - (k + 1)) am_u) [] M = some (r, M')) (hfr : am_lv y ≤ R.frames) (hlo : 40 * am_lv y ≤ R.locals) (hc : cells + (am_sz M' - am_sz M) ≤ R.cells) (hs : slots + (am_sl M' - am_sl M) ≤ R.slots)
    (kk : am_Ok p l e R s m args below meth c Q D base y (pc + 3) lo (r.toList ++ st') M' (cells + (am_sz M' - am_sz M)) (slots + (am_sl M' - am_sl M))) : am_Ok p l e R s m args below meth c Q D base y pc lo ((.inr (.inl (v, some a)) :: av : List am_V).reverse ++ st') M cells slots := by
  have hq := hlk
  simp only [am_lkc, Bool.and_eq_true, decide_eq_true_eq] at hq
  obtain ⟨⟨⟨⟨⟨⟨⟨⟨⟨⟨h1, h2⟩, h3⟩, h4⟩, h5⟩, h6⟩, h7⟩, h8'⟩, h9⟩, h10⟩, h11⟩ := hq
  subst h2
  subst hav
  intro H locs ls hR hL hwl hws hf
  have hle := am_run_le _ _ _ _ _ _ _ _ hrun
  have hw2 := am_wt_app hws
  have hw3 := am_wt_rev hw2.1
  obtain ⟨hb, htg, r0, q1, cell, q2, q3, q4, q5⟩ := am_obj hR (am_wt_h hw3) hak
  have hr0 : r0 = C0 := Option.some.inj (q1.symm.trans hcl)
  subst hr0
  refine am_back (M' := M') (st' := st') hf hL (am_le_wt hle hR hwl) (am_le_wt hle hR hw2.2) (va_runV (C := (am_nm x).cls) (b := a) (As := av.map am_v) ⟨C.1, C.2.1, C.2.2.1, C.2.2.2.1, C.2.2.2.2.1⟩ (am_met (av := .inr (.inl (v, some a)) :: av) IH l h1 h3 hw3 hrun) ⟨am_callB C hlk hfr hlo, C.2.2.2.2.1 _ hin, C.2.2.2.2.1 _ hsel⟩ ⟨am_blind, ⟨cell, q2, by rw [q4]; rfl, ?_⟩, fun U hU hW => ⟨rfl, by rw [hU]; exact hR.moved hW.alike, C.2.2.2.2.2.2.moved hW⟩⟩ rfl (by rw [List.length_map]) hL.1 ?_ (lv_room (by rw [am_v_sum]; exact h8)) hd ⟨hc, hs⟩) kk
  · rw [← hC0, q3]
    exact (C.2.2.2.2.2.2.1.1 _ _ q1).2.1
  · show ((.inr (.inl (v, some a)) :: av : List am_V).reverse ++ st').map am_v = _
    rw [List.reverse_cons, List.append_assoc, List.map_append, List.map_reverse]
    rfl
set_option maxHeartbeats 4000000 in
theorem am_s62 {n x k z w v a : Nat} {st' av : List am_V} {r : Option am_V} {M' : am_M} (IH : am_Snd n) (C : am_At p s m args meth c D y) (hd : decode (am_cd y) pc = .ok (.invokespecial w, 3)) (hlk : am_lkc y x (k + 1) z w k = true) (hin : Jvm.Cond.instanceMethod (am_nm x) ∈ am_ws) (hnm : (am_nm x).name = "<init>") (hrt : am_rt x = none) (hav : av.length = k) (h8 : st'.length ≤ 8) (hrun : am_run n x 0 (.inr (.inl (v, some a)) :: av ++ List.replicate (z - (k + 1)) am_u) [] M = some (r, M')) (hfr : am_lv y ≤ R.frames) (hlo : 40 * am_lv y ≤ R.locals) (hc : cells + (am_sz M' - am_sz M) ≤ R.cells) (hs : slots + (am_sl M' - am_sl M) ≤ R.slots)
    (kk : am_Ok p l e R s m args below meth c Q D base y (pc + 3) lo (r.toList ++ st') M' (cells + (am_sz M' - am_sz M)) (slots + (am_sl M' - am_sl M))) : am_Ok p l e R s m args below meth c Q D base y pc lo ((.inr (.inl (v, some a)) :: av : List am_V).reverse ++ st') M cells slots := by
  have hq := hlk
  simp only [am_lkc, Bool.and_eq_true, decide_eq_true_eq] at hq
  obtain ⟨⟨⟨⟨⟨⟨⟨⟨⟨⟨h1, h2⟩, h3⟩, h4⟩, h5⟩, h6⟩, h7⟩, h8'⟩, h9⟩, h10⟩, h11⟩ := hq
  subst h2
  subst hav
  intro H locs ls hR hL hwl hws hf
  have hle := am_run_le _ _ _ _ _ _ _ _ hrun
  have hw2 := am_wt_app hws
  have hw3 := am_wt_rev hw2.1
  have hcb := am_callB (R := R) (mc := am_sz M' - am_sz M) (ms := am_sl M' - am_sl M) C hlk hfr hlo
  rw [hrt] at hcb
  refine am_back (M' := M') (st' := st') hf hL (am_le_wt hle hR hwl) (am_le_wt hle hR hw2.2) (va_runI (b := a) (As := av.map am_v) ⟨C.1, C.2.1, C.2.2.1, C.2.2.2.1, C.2.2.2.2.1⟩ (am_met (av := .inr (.inl (v, some a)) :: av) IH l h1 h3 hw3 hrun) ⟨hcb, hnm, C.2.2.2.2.1 _ hin⟩ ⟨am_blind, fun U hU hW => ⟨rfl, by rw [hU]; exact hR.moved hW.alike, C.2.2.2.2.2.2.moved hW⟩⟩ rfl (by rw [List.length_map]) hL.1 ?_ (lv_room (by rw [am_v_sum]; exact h8)) hd ⟨hc, hs⟩) kk
  show ((.inr (.inl (v, some a)) :: av : List am_V).reverse ++ st').map am_v = _
  rw [List.reverse_cons, List.append_assoc, List.map_append, List.map_reverse]
  rfl
set_option maxHeartbeats 4000000 in
theorem am_s63 {n x k z w v a : Nat} {st' av : List am_V} {r : Option am_V} {M' : am_M} (IH : am_Snd n) (C : am_At p s m args meth c D y) (hd : decode (am_cd y) pc = .ok (.invokespecial w, 3)) (hlk : am_lkd y x (k + 1) z k = true) (hnw : ((am_nm y).cls, w, am_nm x, am_host) ∈ am_nw) (hin : Jvm.Cond.instanceMethod (am_nm x) ∈ am_ws) (hnm : (am_nm x).name = "<init>") (hrt : am_rt x = none) (hav : av.length = k) (h8 : st'.length ≤ 8) (hrun : am_run n x 0 (.inr (.inl (v, some a)) :: av ++ List.replicate (z - (k + 1)) am_u) [] M = some (r, M')) (hfr : am_lv y ≤ R.frames) (hlo : 40 * am_lv y ≤ R.locals) (hc : cells + (am_sz M' - am_sz M) ≤ R.cells) (hs : slots + (am_sl M' - am_sl M) ≤ R.slots)
    (kk : am_Ok p l e R s m args below meth c Q D base y (pc + 3) lo (r.toList ++ st') M' (cells + (am_sz M' - am_sz M)) (slots + (am_sl M' - am_sl M))) : am_Ok p l e R s m args below meth c Q D base y pc lo ((.inr (.inl (v, some a)) :: av : List am_V).reverse ++ st') M cells slots := by
  have hq := hlk
  simp only [am_lkd, Bool.and_eq_true, decide_eq_true_eq] at hq
  obtain ⟨⟨⟨⟨⟨⟨⟨⟨⟨h1, h2⟩, h3⟩, h4⟩, h5⟩, h6⟩, h8'⟩, h9⟩, h10⟩, h11⟩ := hq
  subst h2
  subst hav
  intro H locs ls hR hL hwl hws hf
  have hle := am_run_le _ _ _ _ _ _ _ _ hrun
  have hw2 := am_wt_app hws
  have hw3 := am_wt_rev hw2.1
  have hcb := am_callN (R := R) (mc := am_sz M' - am_sz M) (ms := am_sl M' - am_sl M) C hlk hnw hfr hlo
  rw [hrt] at hcb
  refine am_back (M' := M') (st' := st') hf hL (am_le_wt hle hR hwl) (am_le_wt hle hR hw2.2) (va_runIN (b := a) (As := av.map am_v) ⟨C.1, C.2.1, C.2.2.1, C.2.2.2.1, C.2.2.2.2.1⟩ (am_met (av := .inr (.inl (v, some a)) :: av) IH l h1 h3 hw3 hrun) ⟨hcb, hnm, C.2.2.2.2.1 _ hin⟩ ⟨am_blind, fun U hU hW => ⟨rfl, by rw [hU]; exact hR.moved hW.alike, C.2.2.2.2.2.2.moved hW⟩⟩ rfl (by rw [List.length_map]) hL.1 ?_ (lv_room (by rw [am_v_sum]; exact h8)) hd ⟨hc, hs⟩) kk
  show ((.inr (.inl (v, some a)) :: av : List am_V).reverse ++ st').map am_v = _
  rw [List.reverse_cons, List.append_assoc, List.map_append, List.map_reverse]
  rfl
set_option maxHeartbeats 4000000 in
theorem am_cas {n : Nat} (IH : am_Snd n) (C : am_At p s m args meth c D y) {i : am_I} {q : Nat × List am_V × List am_V} {r : Option am_V} {M' : am_M} (hi : am_ins y pc = some i) (h6 : ¬ i.1 < 60) (h7 : i.1 < 70) (hca : am_ca i st = some q) (hrun : am_run n q.1 0 q.2.1 [] M = some (r, M')) (hfr : am_lv y ≤ R.frames) (hlo : 40 * am_lv y ≤ R.locals) (hc : cells + (am_sz M' - am_sz M) ≤ R.cells) (hs : slots + (am_sl M' - am_sl M) ≤ R.slots)
    (kk : am_Ok p l e R s m args below meth c Q D base y (pc + 3) lo (r.toList ++ q.2.2) M' (cells + (am_sz M' - am_sz M)) (slots + (am_sl M' - am_sl M))) : am_Ok p l e R s m args below meth c Q D base y pc lo st M cells slots := by
  have hk := am_chk_of hi
  obtain ⟨op, x, k, z, w, v⟩ := i
  obtain ⟨y1, lo1, st'⟩ := q
  dsimp only at h6 h7 hrun kk
  have hop : op = 60 ∨ op = 61 ∨ op = 62 ∨ op = 63 := by
    have hq := hk.2
    unfold am_lk at hq
    split at hq <;> first | (exfalso; simp at h6; done) | (exfalso; simp at h7; done) | (simp_all; done) | (simp_all; omega)
  rcases hop with rfl | rfl | rfl | rfl
  · have hca : (match (st.take k).reverse with | .inr (.inl (t, some _)) :: _ => if t = v then am_cf (60, x, k, z, w, v) st else none | _ => none) = some (y1, lo1, st') := hca
    split at hca
    · rename_i t a av hrev
      split at hca
      · rename_i ht
        subst ht
        obtain ⟨e1, e2, e3, e4, e5⟩ := am_cfs hca
        dsimp only at e1 e2 e3 e4 e5
        subst e1
        have hst : st = (.inr (.inl (t, some a)) :: av : List am_V).reverse ++ st' := by rw [← hrev, List.reverse_reverse, e3, List.take_append_drop]
        have hlen : av.length + 1 = k := by
          have h1 : (st.take k).reverse.length = k := by rw [List.length_reverse, List.length_take]; omega
          rw [hrev] at h1
          exact h1
        rw [hrev] at e2
        subst e2
        have hq := hk.2
        simp only [am_lk] at hq
        split at hq
        · rename_i C0 hC0
          simp only [Bool.and_eq_true, decide_eq_true_eq] at hq
          obtain ⟨⟨⟨⟨q1, q2⟩, q3⟩, q4⟩, q5⟩ := hq
          subst hlen
          rw [hst]
          exact am_s60 IH C hk.1 q1 q2 q3 hC0 q4 q5 rfl e5 hrun hfr hlo hc hs kk
        · cases hq
      · cases hca
    · cases hca
  · have hca : am_cf (61, x, k, z, w, v) st = some (y1, lo1, st') := hca
    obtain ⟨e1, e2, e3, e4, e5⟩ := am_cfs hca
    dsimp only at e1 e2 e3 e4 e5
    subst e1
    subst e2
    have hst : st = ((st.take k).reverse : List am_V).reverse ++ st' := by rw [List.reverse_reverse, e3, List.take_append_drop]
    have hlen : (st.take k).reverse.length = k := by rw [List.length_reverse, List.length_take]; omega
    have hq := hk.2
    simp only [am_lk, Bool.and_eq_true, decide_eq_true_eq] at hq
    rw [hst]
    exact am_s61 IH C hk.1 hq.1 hq.2 hlen e5 hrun hfr hlo hc hs kk
  · have hca : (match (st.take k).reverse with | .inr (.inl (t, some _)) :: _ => if t = v then am_cf (62, x, k, z, w, v) st else none | _ => none) = some (y1, lo1, st') := hca
    split at hca
    · rename_i t a av hrev
      split at hca
      · rename_i ht
        subst ht
        obtain ⟨e1, e2, e3, e4, e5⟩ := am_cfs hca
        dsimp only at e1 e2 e3 e4 e5
        subst e1
        have hst : st = (.inr (.inl (t, some a)) :: av : List am_V).reverse ++ st' := by rw [← hrev, List.reverse_reverse, e3, List.take_append_drop]
        have hlen : av.length + 1 = k := by
          have h1 : (st.take k).reverse.length = k := by rw [List.length_reverse, List.length_take]; omega
          rw [hrev] at h1
          exact h1
        rw [hrev] at e2
        subst e2
        have hq := hk.2
        simp only [am_lk, Bool.and_eq_true, decide_eq_true_eq] at hq
        obtain ⟨⟨⟨q1, q2⟩, q3⟩, q4⟩ := hq
        subst hlen
        rw [hst]
        exact am_s62 IH C hk.1 q1 q2 q3 q4 rfl e5 hrun hfr hlo hc hs kk
      · cases hca
    · cases hca
  · have hca : (match (st.take k).reverse with | .inr (.inl (t, some _)) :: _ => if t = v then am_cf (63, x, k, z, w, v) st else none | _ => none) = some (y1, lo1, st') := hca
    split at hca
    · rename_i t a av hrev
      split at hca
      · rename_i ht
        subst ht
        obtain ⟨e1, e2, e3, e4, e5⟩ := am_cfs hca
        dsimp only at e1 e2 e3 e4 e5
        subst e1
        have hst : st = (.inr (.inl (t, some a)) :: av : List am_V).reverse ++ st' := by rw [← hrev, List.reverse_reverse, e3, List.take_append_drop]
        have hlen : av.length + 1 = k := by
          have h1 : (st.take k).reverse.length = k := by rw [List.length_reverse, List.length_take]; omega
          rw [hrev] at h1
          exact h1
        rw [hrev] at e2
        subst e2
        have hq := hk.2
        simp only [am_lk, Bool.and_eq_true, decide_eq_true_eq] at hq
        obtain ⟨⟨⟨⟨q1, q5⟩, q2⟩, q3⟩, q4⟩ := hq
        subst hlen
        rw [hst]
        exact am_s63 IH C hk.1 q1 q5 q2 q3 q4 rfl e5 hrun hfr hlo hc hs kk
      · cases hca
    · cases hca
set_option maxHeartbeats 4000000 in
theorem am_snd (n : Nat) : am_Snd n := by
  induction n with
  | zero => intro y pc lo st M r M' h; simp [am_run] at h
  | succ n ih =>
    intro y pc lo st M r M' h p l e R s m args below meth c Q D base cells slots C hfr hlo hc hs hF
    rw [am_run] at h
    cases hi : am_ins y pc with
    | none => rw [hi] at h; cases h
    | some i =>
      rw [hi] at h
      dsimp only at h
      have hlv := am_lv1 y pc i hi
      by_cases h1 : i.1 < 60
      · rw [if_pos h1] at h
        cases ht : am_tl i pc lo st M with
        | none => rw [ht] at h; cases h
        | some q =>
          rw [ht] at h
          dsimp only at h
          have g1 := am_tl_le ht
          have g2 := am_run_le _ _ _ _ _ _ _ _ h
          refine am_tls C hi ht (by omega) (by omega) (by have := g1.1; have := g2.1; omega) (by have := g1.2.1; have := g2.2.1; omega) (fun cells' slots' e1 e2 => ?_)
          refine ih _ _ _ _ _ _ _ h p l e R s m args below meth c Q D base cells' slots' C hfr hlo (by have := g1.1; have := g2.1; omega) (by have := g1.2.1; have := g2.2.1; omega) ?_
          rw [show cells' + (am_sz M' - am_sz q.2.2.2) = cells + (am_sz M' - am_sz M) by have := g1.1; have := g2.1; omega, show slots' + (am_sl M' - am_sl q.2.2.2) = slots + (am_sl M' - am_sl M) by have := g1.2.1; have := g2.2.1; omega]
          exact hF
      · rw [if_neg h1] at h
        by_cases h2 : i.1 < 70
        · rw [if_pos h2] at h
          cases hca : am_ca i st with
          | none => rw [hca] at h; cases h
          | some q =>
            rw [hca] at h
            dsimp only at h
            cases hr : am_run n q.1 0 q.2.1 [] M with
            | none => rw [hr] at h; cases h
            | some r1 =>
              rw [hr] at h
              dsimp only at h
              obtain ⟨r1, M1⟩ := r1
              dsimp only at h
              have g1 := am_run_le _ _ _ _ _ _ _ _ hr
              have g2 := am_run_le _ _ _ _ _ _ _ _ h
              refine am_cas ih C hi h1 h2 hca hr hfr hlo (by have := g1.1; have := g2.1; omega) (by have := g1.2.1; have := g2.2.1; omega) ?_
              refine ih _ _ _ _ _ _ _ h p l e R s m args below meth c Q D base _ _ C hfr hlo (by have := g1.1; have := g2.1; omega) (by have := g1.2.1; have := g2.2.1; omega) ?_
              rw [show cells + (am_sz M1 - am_sz M) + (am_sz M' - am_sz M1) = cells + (am_sz M' - am_sz M) by have := g1.1; have := g2.1; omega, show slots + (am_sl M1 - am_sl M) + (am_sl M' - am_sl M1) = slots + (am_sl M' - am_sl M) by have := g1.2.1; have := g2.2.1; omega]
              exact hF
        · rw [if_neg h2] at h
          cases hc2 : am_rf i.1 st with
          | none => rw [hc2] at h; cases h
          | some r1 =>
            rw [hc2] at h
            cases h
            obtain ⟨g1, g2⟩ := am_rfs hi h1 h2 hc2
            intro H locs ls hR hL hwl hws hf
            rw [g2] at hws ⊢
            rw [am_c0, am_c0] at hF
            exact hF H locs ls pc hR hf g1 hws
end SND4
end
section
/-! THE CLAIM OUT OF ONE WALK OF THE LAW'S BODY. Your part is whole_start (and what it stands on); all else here is the same for every law, but numbers. -/
def R_law : String := "ThingTreesLaw"
def lw_P (b : Addr) (xs : List Int32) (args : Array Value) (s : State) : Prop := args = #[.ref b] ∧ s.IntsAt b xs ∧ xs.length ≤ 2048 ∧ (Jvm.Cond.and given_1 narrow_1).before args s = true
def lw_Q (_ : Array Value) (s : State) (o : Outcome) (t : State) : Prop := o = .returned (some (.int 1)) ∧ Framed s o t [] 600000 7302250
def lw_Z (below : List Frame) (a : Array Value) (s : State) : State → Prop := fun t => ∃ o, t.status = .running ∧ Ended t below o ∧ lw_Q a s o t
/-- the law's own end, with 1 on the stack, nothing written that was there before, its room as the claim has it -/
theorem lw_ret {p : Program} {l : Launch} {e : Env} {s : State} {m : MethodId} {below : List Frame} {meth : Method} {c : Code} {b : Nat} (hx : p.tables.exec = Jvm.exec) (hb : c.code = code) (hr : meth.sig.returnType = ret) (hlocks : meth.locks = false) {pc : Nat} {H : Heap} {ls : Array Slot} (hdg : decode code pc = .ok (.ireturn, 1)) : W p l e room_1 s m #[Value.ref b] below meth c H [] 600000 7302250 (lw_Z below #[Value.ref b] s) (F0 m pc ls [.int 1]) := by
  intro T hT X
  obtain ⟨fs, hret, hrun, hended, hW, hframe⟩ := X.leave (v := some (.int 1)) (hlocks := hlocks) (fun h => by rw [hr] at h; cases h)
  have hmeth' : T.vm.method? m = some meth := X.method'
  refine ⟨T.setFrames fs, ?_, .returned (some (.int 1)), hrun, hended, rfl, ⟨_, rfl⟩, hW, hframe⟩
  jvm_step X.here [X.here.top, hx, hb, hdg, hmeth', hr, ret, narrow_b1]
  (try refine ⟨rfl, ?_⟩); (try refine ⟨rfl, ?_⟩)
  first | (intro acts; rw [hret _ acts rfl rfl rfl]) | rw [hret _ _ rfl rfl rfl]
  exact Steps.refl _
/-- what holds at the law's entry: the machine, the code, the tables' words (any of lw_tbl by 'hts w (by decide +kernel)'), the script of L ints xs at the cell b, what the Statement gives of the start (any of its parts by flat_of_before) -/
def lw_At (p : Program) (s : State) (m : MethodId) (meth : Method) (c : Code) (b L : Nat) (xs : Nat → Int32) : Prop :=
  p.tables.exec = Jvm.exec ∧ c.code = code ∧ meth.sig.returnType = ret ∧ c.maxLocals = 4 ∧ s.vm.findClass R_law = some m.cls ∧ (∀ w ∈ lw_tbl, w.before #[Value.ref b] s = true) ∧ va_X b L xs s s.heap ∧ b < s.heap.size ∧ meth.locks = false ∧ (Jvm.Cond.and given_1 narrow_1).before #[Value.ref b] s = true
section TOP
def am_M0 (hs b L : Nat) (xs : Nat → Int32) : am_M := ((hs, 0, L), (fun a => if a = b then 15 else 0), (fun a k => if a = b then xs k else 0), fun _ _ => none)
def am_Goal : Prop := ∀ (hs b L : Nat) (xs : Nat → Int32), L ≤ 2048 → b < hs → am_wp yL_law 0 [.inr (.inl (15, some b)), am_u, am_u, am_u] [] (am_M0 hs b L xs) (fun r M' => r = some (.inl 1) ∧ am_sz M' ≤ hs + 600000 ∧ am_sl M' ≤ 7302250)
theorem am_ws_in (w : Jvm.Cond) (h : w ∈ am_ws) : w ∈ lw_tbl := (List.mem_filter.mp h).1
set_option maxRecDepth 100000 in
theorem am_K_of {s : State} {A : Array Value} (hts : ∀ w ∈ lw_tbl, w.before A s = true) : ∃ D : va_G, am_K D s := by
  have hw : ∀ w ∈ am_ws, w.before A s = true := fun w h => hts w (am_ws_in w h)
  obtain ⟨c0, i0, k0⟩ := u_known (C := am_C0) (T := am_T0) (N := 4) (n := 4) hw (am_clk 0 _ rfl).1 (hts (.instantiable am_C0 4) (by decide +kernel))
  obtain ⟨c1, i1, k1⟩ := u_known (C := am_C1) (T := am_T1) (N := 13) (n := 13) hw (am_clk 1 _ rfl).1 (hts (.instantiable am_C1 13) (by decide +kernel))
  obtain ⟨c2, i2, k2⟩ := u_known (C := am_C2) (T := am_T2) (N := 2) (n := 2) hw (am_clk 2 _ rfl).1 (hts (.instantiable am_C2 2) (by decide +kernel))
  obtain ⟨c3, i3, k3⟩ := u_known (C := am_C3) (T := am_T3) (N := 19) (n := 19) hw (am_clk 3 _ rfl).1 (hts (.instantiable am_C3 19) (by decide +kernel))
  refine ⟨(fun k => if k = 0 then c0 else if k = 1 then c1 else if k = 2 then c2 else c3, fun k => if k = 0 then i0 else if k = 1 then i1 else if k = 2 then i2 else i3), ⟨?_, fun k q h => by simp at h⟩, ?_, ?_⟩
  · intro k q hq
    match k, hq with
    | 0, hq => cases hq; exact k0
    | 1, hq => cases hq; exact k1
    | 2, hq => cases hq; exact k2
    | 3, hq => cases hq; exact k3
    | k + 4, hq => simp [am_cl] at hq
  · intro q hq
    have h1 : q = ("ThingTrees", 17, ⟨"ThingTrees$Changes", "<init>", "()V"⟩, am_host) := by simpa [am_nw] using hq
    subst h1
    exact va_Nw.of rfl (hts (.methodLinkNest "ThingTrees" 17 ⟨"ThingTrees$Changes", "<init>", "()V"⟩ am_host) (by decide +kernel))
  · exact va_AO.of (hts (.arrayOver (.object am_C1)) (by decide +kernel))
theorem am_Rep0 {D : va_G} {s : State} {b L : Nat} {xs : Nat → Int32} (hX : va_X b L xs s s.heap) : am_Rep D s s.heap.size (am_M0 s.heap.size b L xs) s.heap := by
  have tgb : am_tg (am_M0 s.heap.size b L xs) b = 15 := by simp [am_tg, am_M0]
  refine ⟨rfl, Nat.le_refl _, fun a ha => ?_, fun a k c h => by cases h⟩
  have hab : a = b := by
    by_cases h : a = b
    · exact h
    · exact absurd (by simp [am_tg, am_M0, h]) ha
  subst hab
  rw [tgb]
  refine ⟨fun h => absurd rfl h, ?_⟩
  obtain ⟨scr, h1, h2, h3, h4, h5⟩ := hX
  show ∃ scr : Cell, _
  exact ⟨scr, h1, h2, h3, h4, fun j hj => by rw [h5 j hj]; simp [am_mi, am_M0]⟩
set_option maxHeartbeats 4000000 in
theorem am_start (G : am_Goal) {p : Program} {e : Env} {s : State} {m : MethodId} {below : List Frame} {meth : Method} {c : Code} (l : Launch) {b L : Nat} {xs : Nat → Int32} (hL : L ≤ 2048) (C0 : lw_At p s m meth c b L xs) : W p l e room_1 s m #[Value.ref b] below meth c s.heap [] 0 0 (lw_Z below #[Value.ref b] s) (entryFrame m ([Value.ref b] : List Value).toArray 4) := by
  obtain ⟨hx, hb, hr, hml, hown, hts, hX, hbl, hlocks, hgv⟩ := C0
  obtain ⟨D, hK⟩ := am_K_of hts
  obtain ⟨n, r, M', hrun, hr1, hz, hsl⟩ := G s.heap.size b L xs hL hbl
  subst hr1
  have C : am_At p s m #[Value.ref b] meth c D yL_law := ⟨hx, hb, hml, hown, fun w h => hts w (am_ws_in w h), fun h => absurd h (by decide +kernel), hK⟩
  have e1 : (#[Value.ref b] : Array Value) = (([.inr (.inl (15, some b))] : List am_V).map am_v).toArray := rfl
  have hent := am_entry (av := [.inr (.inl (15, some b))]) (n := 4) (Nat.le_of_ble_eq_true rfl)
  rw [show ([Value.ref b] : List Value).toArray = (([.inr (.inl (15, some b))] : List am_V).map am_v).toArray from rfl, lg_entry_eq]
  refine am_snd n yL_law 0 _ [] (am_M0 s.heap.size b L xs) _ M' hrun p l e room_1 s m _ below meth c _ D s.heap.size 0 0 C (by decide +kernel) (by decide +kernel) ?_ ?_ ?_ s.heap [] _ (am_Rep0 hX) hent ?_ (fun v hv => by cases hv) (fun q hq => by cases hq)
  · show 0 + (am_sz M' - s.heap.size) ≤ 600000
    omega
  · show 0 + (am_sl M' - 0) ≤ 7302250
    omega
  · intro H locs ls pc hR hf hre hwr
    refine va_forget (fun q hq => hf q hq) ?_
    refine W.widen (k := 600000) (n := 7302250) (by show 0 + (am_sz M' - s.heap.size) ≤ 600000; omega) (by show 0 + (am_sl M' - 0) ≤ 7302250; omega) ?_
    exact lw_ret hx hb hr hlocks hre.1
  · intro v hv
    rcases List.mem_cons.mp hv with h | h
    · rw [h]
      intro t a hta
      cases hta
      exact ⟨by simp [am_tg, am_M0], by decide⟩
    · have h2 : v = am_u := by simpa using h
      rw [h2]
      exact am_wv_u _
end TOP
end
