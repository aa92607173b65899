/-! the words of the tables, by lists; every row of the code names what the tables say -/
def isFL : Cond → Bool | .fieldLink .. => true | _ => false
def isSL : Cond → Bool | .fieldLinkNest .. => true | _ => false
def isML : Cond → Bool | .methodLink .. => true | _ => false
def isNL : Cond → Bool | .methodLinkNest .. => true | _ => false
def isCK : Cond → Bool | .classLink .. => true | _ => false
def isKI : Cond → Bool | .constant .. => true | _ => false
def isKL : Cond → Bool | .constantLong .. => true | _ => false
def isSR : Cond → Bool | .stringRef .. => true | _ => false
def isSe : Cond → Bool | .selects c x y => pCls.contains c && (c == x.cls && decide (x = y)) | _ => false
def isCw : Cond → Bool | .codeWith .. => true | _ => false
def isSt : Cond → Bool | .static y => pCls.contains y.cls | _ => false
def isIm : Cond → Bool | .instanceMethod y => pCls.contains y.cls && (y.cls != "MoveNotesLaw") | _ => false
def pY (j : Nat) : MethodName := ((pM.map (·.1))[j]?).getD ⟨"", "", ""⟩
def pSTI : List Nat := [14, 20, 21, 28, 30, 44, 45, 48, 49, 52, 277, 278, 279, 102, 105, 106, 280, 109, 111, 281, 113, 282, 117, 283, 284, 285, 129, 286, 131, 287, 288, 289, 290, 291, 139, 292, 293, 294, 295, 296, 157, 297, 160, 298, 299, 300, 193, 197, 200, 204, 220, 223, 238, 239, 255, 256, 268, 270]
def pINI : List Nat := [0, 1, 2, 3, 4, 5, 6, 7, 8, 9, 10, 11, 12, 13, 15, 16, 17, 18, 19, 22, 23, 24, 25, 26, 27, 29, 31, 32, 33, 34, 35, 36, 37, 38, 39, 40, 41, 42, 43, 46, 47, 50, 51, 53, 54, 55, 56, 57, 58, 59, 60, 61, 62, 63, 64, 65, 66, 67, 68, 69, 70, 71, 72, 73, 74, 75, 76, 77, 78, 79, 80, 81, 82, 83, 84, 85, 86, 87, 88, 89, 90, 91, 92, 93, 94, 95, 96, 97, 98, 99, 100, 101, 103, 104, 107, 108, 110, 112, 114, 115, 116, 118, 119, 120, 121, 122, 123, 124, 125, 126, 127, 128, 130, 132, 133, 134, 135, 136, 137, 138, 140, 141, 142, 143, 144, 145, 146, 147, 148, 149, 150, 151, 152, 153, 154, 155, 156, 158, 159, 161, 162, 163, 164, 165, 166, 167, 168, 169, 170, 171, 172, 173, 174, 175, 176, 177, 178, 179, 180, 181, 182, 183, 184, 185, 186, 187, 188, 189, 190, 191, 192, 194, 195, 196, 198, 199, 201, 202, 203, 205, 206, 207, 208, 209, 210, 211, 212, 213, 214, 215, 216, 217, 218, 219, 221, 222, 224, 225, 226, 227, 228, 229, 230, 231, 232, 233, 234, 235, 236, 237, 240, 241, 242, 243, 244, 245, 246, 247, 248, 249, 250, 251, 252, 253, 254, 257, 258, 259, 260, 261, 262, 263, 264, 265, 266, 267, 269, 271, 272, 273, 274, 275, 276]
def pSEI : List Nat := [18, 23, 26, 27, 29, 31, 33, 42, 46, 51, 55, 62, 63, 64, 65, 73, 80, 81, 82, 83, 84, 85, 86, 87, 88, 89, 90, 91, 92, 93, 94, 95, 96, 97, 103, 104, 116, 121, 126, 127, 128, 140, 141, 145, 146, 165, 175, 176, 177, 178, 179, 180, 181, 182, 183, 184, 185, 186, 187, 188, 189, 190, 191, 192, 194, 198, 199, 203, 205, 206, 207, 208, 210, 211, 217, 218, 219, 221, 222, 224, 225, 226, 227, 228, 230, 231, 232, 233, 234, 235, 236, 237, 240, 241, 242, 243, 244, 245, 246, 247, 248, 249, 250, 251, 252, 253, 254, 261, 275, 11, 12, 13, 15, 16, 17, 19, 22, 24, 25, 32, 34, 35, 36, 37, 38, 39, 40, 41, 43, 47, 50, 53, 54, 56, 57, 58, 59, 60, 61, 66, 67, 68, 69, 70, 71, 72, 74, 75, 76, 77, 78, 79, 98, 99, 100, 101, 107, 108, 110, 112, 114, 115, 118, 119, 120, 122, 123, 125, 130, 132, 133, 134, 135, 136, 137, 138, 142, 143, 144, 147, 148, 149, 150, 151, 152, 153, 154, 155, 156, 158, 159, 161, 162, 163, 164, 166, 167, 169, 170, 171, 172, 173, 174, 195, 196, 201, 202, 209, 212, 213, 214, 215, 216, 229, 257, 258, 259, 260, 262, 263, 264, 265, 266, 267, 269, 271, 272, 273, 274, 276]
def pHH : List (List (Nat × Nat × Nat × Nat)) := [[(0, 9, 12, 13), (0, 9, 15, 15)], [(0, 8, 11, 13)], [(0, 7, 10, 25), (0, 7, 14, 13)], [(0, 10, 13, 13)], [(0, 9, 12, 13), (0, 9, 15, 15)], [(0, 16, 19, 25), (0, 16, 23, 13), (0, 16, 27, 15)], [(0, 25, 28, 25), (0, 25, 32, 13)], [(0, 12, 15, 25), (0, 12, 19, 46)], [(0, 14, 17, 13), (0, 14, 21, 15)], [(0, 10, 13, 25), (0, 10, 17, 13)], [(0, 5, 8, 13)], [(0, 14, 17, 25), (0, 14, 21, 13), (0, 14, 25, 15)], [(0, 9, 12, 13)], [(0, 9, 12, 13)], [(0, 10, 13, 25)], [(0, 10, 13, 25)], [(0, 9, 12, 25)], [(0, 9, 12, 13)], [(0, 9, 12, 13)], [(0, 11, 14, 13)], [(0, 12, 15, 25)], [(0, 10, 13, 25)], [(0, 9, 12, 25)], [(0, 9, 12, 25)]]
def pSN : List String := ["STRAIGHT_STEPS", "SLANT_STEPS", "LEAP_STEPS", "AHEAD_STEPS", "AHEAD_STEPS_OF_SIDE_1", "BITE_STEPS", "BITE_STEPS_OF_SIDE_1"]
def pXN : List String := ["java/lang/IllegalArgumentException", "java/lang/UnsupportedOperationException", "java/lang/IndexOutOfBoundsException", "java/util/NoSuchElementException"]
def pAty : ArrayType → Nat | .int => 0 | .long => 1 | .byte => 2 | .boolean => 3 | _ => 9
theorem wFL : lw_tbl.filter isFL = pFL.map (fun w => Cond.fieldLink w.1 w.2.1 w.2.2.1 w.2.2.2.1 w.2.2.2.2) := by decide +kernel
theorem wSL : lw_tbl.filter isSL = pSL.map (fun w => Cond.fieldLinkNest w.1 w.2.1 w.2.2.1 w.2.2.2.1 w.2.2.2.2 "MoveNotes") := by decide +kernel
theorem wML : lw_tbl.filter isML = pML.map (fun w => Cond.methodLink w.1 w.2.1 w.2.2) := by decide +kernel
theorem wNL : lw_tbl.filter isNL = pNL.map (fun w => Cond.methodLinkNest w.1 w.2.1 w.2.2 "MoveNotes") := by decide +kernel
theorem wCK : lw_tbl.filter isCK = pCK.map (fun w => Cond.classLink w.1 w.2.1 w.2.2) := by decide +kernel
theorem wKI : lw_tbl.filter isKI = pKI.map (fun w => Cond.constant w.1 w.2.1 w.2.2) := by decide +kernel
theorem wKL : lw_tbl.filter isKL = pKL.map (fun w => Cond.constantLong w.1 w.2.1 w.2.2) := by decide +kernel
theorem wSR : lw_tbl.filter isSR = pST.map (fun w => Cond.stringRef w.1 w.2.1 w.2.2) := by decide +kernel
theorem wCw : lw_tbl.filter isCw = (((pM.drop pNcode).take 24).zip pHH).map (fun r => Cond.codeWith r.1.1 r.1.2.1 r.1.2.2.1 r.1.2.2.2.1 r.2) := by decide +kernel
theorem wSt : lw_tbl.filter isSt = pSTI.map (fun j => Cond.static (pY j)) ++ [] := by decide +kernel
theorem wIm : lw_tbl.filter isIm = pINI.map (fun j => Cond.instanceMethod (pY j)) := by decide +kernel
theorem wSe : lw_tbl.filter isSe = pSEI.map (fun j => Cond.selects (pY j).cls (pY j) (pY j)) := by decide +kernel
theorem wIn : pCls.all (fun c => decide (Cond.initialized c ∈ lw_tbl)) = true := by decide +kernel
theorem wInst : vwCl.all (fun c => decide (Cond.instantiable c.1 c.2.2 ∈ lw_tbl)) = true := by decide +kernel
theorem wArr : [FieldType.int, .long, .byte, .boolean].all (fun t => decide (Cond.arrayClass t ∈ lw_tbl)) = true := by decide +kernel
theorem wUws : vwCl.all (fun c => (u_ws c.1 c.2.1 c.2.2).all (fun w => decide (w ∈ lw_tbl) && goodWord w)) = true := by decide +kernel
/-- a row of the code says what the tables say -/
def pOKe (own : String) (e : pEnt) : Bool := match e with
  | (.getfield ix, _, q, a, b) | (.putfield ix, _, q, a, b) => match pFL[q]?, vwCl[a]? with
    | some w, some c => w.1 == own && (w.2.1 == ix && (w.2.2.1 == c.1 && ((c.2.1 b).1 == c.1 && ((c.2.1 b).2.1 == w.2.2.2.1 && ((c.2.1 b).2.2.1 == w.2.2.2.2 && decide (b < c.2.2))))))
    | _, _ => false
  | (.getstatic ix, _, q, a, _) => match pSL[q]?, pSN[a]? with
    | some w, some n => w.1 == own && (w.2.1 == ix && (w.2.2.1 == "MoveNotes" && (w.2.2.2.1 == n && w.2.2.2.2 == "[I")))
    | _, _ => false
  | (.invokestatic ix, _, q, a, b) => match b with
    | 0 => match pML[q]? with
      | some w => w.1 == own && (w.2.1 == ix && (decide (w.2.2 = pY a) && (pSTI.contains a && (w.2.2.cls == own || true))))
      | none => false
    | 3 => match pNL[q]? with
      | some w => w.1 == own && (w.2.1 == ix && (decide (w.2.2 = pY a) && pSTI.contains a))
      | none => false
    | 7 => match pML[q]? with
      | some w => w.1 == own && (w.2.1 == ix && decide (w.2.2 = arraycopyName))
      | none => false
    | _ => false
  | (.invokevirtual ix, _, q, a, b) => match b with
    | 1 => match pML[q]? with
      | some w => w.1 == own && (w.2.1 == ix && (decide (w.2.2 = pY a) && (pINI.contains a && pSEI.contains a)))
      | none => false
    | 4 => match pNL[q]? with
      | some w => w.1 == own && (w.2.1 == ix && (decide (w.2.2 = pY a) && (pINI.contains a && pSEI.contains a)))
      | none => false
    | 8 => match pML[q]? with
      | some w => w.1 == own && (w.2.1 == ix && decide (w.2.2 = ⟨"java/lang/String", "length", "()I"⟩))
      | none => false
    | 9 => match pML[q]? with
      | some w => w.1 == own && (w.2.1 == ix && decide (w.2.2 = ⟨"java/lang/String", "charAt", "(I)C"⟩))
      | none => false
    | _ => false
  | (.invokespecial ix, _, q, a, b) => match b with
    | 2 => match pML[q]? with
      | some w => w.1 == own && (w.2.1 == ix && (decide (w.2.2 = pY a) && (pINI.contains a && w.2.2.name == "<init>")))
      | none => false
    | 5 => match pNL[q]? with
      | some w => w.1 == own && (w.2.1 == ix && (decide (w.2.2 = pY a) && (pINI.contains a && w.2.2.name == "<init>")))
      | none => false
    | 6 => match pML[q]? with
      | some w => w.1 == own && (w.2.1 == ix && decide (w.2.2 = Jvm.Lib.objectInit))
      | none => false
    | 10 => match pML[q]?, pXN[a]? with
      | some w, some x => w.1 == own && (w.2.1 == ix && decide (w.2.2 = ⟨x, "<init>", "(Ljava/lang/String;)V"⟩))
      | _, _ => false
    | _ => false
  | (.new ix, _, q, a, b) => match b with
    | 0 => match pCK[q]?, vwCl[a]? with
      | some w, some c => w.1 == own && (w.2.1 == ix && w.2.2 == c.1)
      | _, _ => false
    | 1 => match pCK[q]?, pXN[a]? with
      | some w, some x => w.1 == own && (w.2.1 == ix && w.2.2 == x)
      | _, _ => false
    | _ => false
  | (.ldc ix, _, q, _, b) => match b with
    | 0 => match pKI[q]? with
      | some w => w.1 == own && w.2.1 == ix
      | none => false
    | 1 => match pST[q]? with
      | some w => w.1 == own && w.2.1 == ix
      | none => false
    | _ => false
  | (.ldc_w ix, _, q, _, b) => match b with
    | 0 => match pKI[q]? with
      | some w => w.1 == own && w.2.1 == ix
      | none => false
    | 1 => match pST[q]? with
      | some w => w.1 == own && w.2.1 == ix
      | none => false
    | _ => false
  | (.ldc2_w ix, _, q, _, _) => match pKL[q]? with
    | some w => w.1 == own && w.2.1 == ix
    | none => false
  | (.newarray t, _, _, a, _) => pAty t == a && decide (a < 4)
  | _ => true

theorem wc_0 : Cond.code yX11_init cX11_init 1 none ∈ lw_tbl := List.mem_of_getElem? (i := 143) (by decide +kernel)
theorem wc_1 : Cond.code yX8_init cX8_init 1 none ∈ lw_tbl := List.mem_of_getElem? (i := 151) (by decide +kernel)
theorem wc_2 : Cond.code yX2_init cX2_init 2 none ∈ lw_tbl := List.mem_of_getElem? (i := 168) (by decide +kernel)
theorem wc_3 : Cond.code yX1_init cX1_init 1 none ∈ lw_tbl := List.mem_of_getElem? (i := 207) (by decide +kernel)
theorem wc_4 : Cond.code yX0_init cX0_init 2 none ∈ lw_tbl := List.mem_of_getElem? (i := 278) (by decide +kernel)
theorem wc_5 : Cond.code yX7_init cX7_init 2 none ∈ lw_tbl := List.mem_of_getElem? (i := 296) (by decide +kernel)
theorem wc_6 : Cond.code yX5_init cX5_init 1 none ∈ lw_tbl := List.mem_of_getElem? (i := 302) (by decide +kernel)
theorem wc_7 : Cond.code yX3_init cX3_init 1 none ∈ lw_tbl := List.mem_of_getElem? (i := 331) (by decide +kernel)
theorem wc_8 : Cond.code yX6_init cX6_init 1 none ∈ lw_tbl := List.mem_of_getElem? (i := 352) (by decide +kernel)
theorem wc_9 : Cond.code yX4_init cX4_init 3 none ∈ lw_tbl := List.mem_of_getElem? (i := 385) (by decide +kernel)
theorem wc_10 : Cond.code yX9_init cX9_init 3 none ∈ lw_tbl := List.mem_of_getElem? (i := 488) (by decide +kernel)
theorem wc_11 : Cond.code yX11_feed cX11_feed 6 (some (Jvm.ClassFile.FieldType.int)) ∈ lw_tbl := List.mem_of_getElem? (i := 552) (by decide +kernel)
theorem wc_12 : Cond.code yX8_hasRoom cX8_hasRoom 2 (some (Jvm.ClassFile.FieldType.boolean)) ∈ lw_tbl := List.mem_of_getElem? (i := 556) (by decide +kernel)
theorem wc_13 : Cond.code yX8_append cX8_append 3 none ∈ lw_tbl := List.mem_of_getElem? (i := 560) (by decide +kernel)
theorem wc_14 : Cond.code yX11_set cX11_set 3 none ∈ lw_tbl := List.mem_of_getElem? (i := 563) (by decide +kernel)
theorem wc_15 : Cond.code yX11_end cX11_end 2 (some (Jvm.ClassFile.FieldType.boolean)) ∈ lw_tbl := List.mem_of_getElem? (i := 567) (by decide +kernel)
theorem wc_16 : Cond.code yX11_fault cX11_fault 1 (some (Jvm.ClassFile.FieldType.int)) ∈ lw_tbl := List.mem_of_getElem? (i := 571) (by decide +kernel)
theorem wc_17 : Cond.code yX11_least cX11_least 1 (some (Jvm.ClassFile.FieldType.int)) ∈ lw_tbl := List.mem_of_getElem? (i := 575) (by decide +kernel)
theorem wc_18 : Cond.code yX11_asked cX11_asked 1 (some (Jvm.ClassFile.FieldType.int)) ∈ lw_tbl := List.mem_of_getElem? (i := 579) (by decide +kernel)
theorem wc_19 : Cond.code yX5_askAll cX5_askAll 2 none ∈ lw_tbl := List.mem_of_getElem? (i := 583) (by decide +kernel)
theorem wc_20 : Cond.code yX11_copy cX11_copy 2 none ∈ lw_tbl := List.mem_of_getElem? (i := 586) (by decide +kernel)
theorem wc_21 : Cond.code yJ9_min_7cf53 cJ9_min_7cf53 2 (some (Jvm.ClassFile.FieldType.int)) ∈ lw_tbl := List.mem_of_getElem? (i := 589) (by decide +kernel)
theorem wc_22 : Cond.code yX7_findLeast cX7_findLeast 2 none ∈ lw_tbl := List.mem_of_getElem? (i := 596) (by decide +kernel)
theorem wc_23 : Cond.code yX7_begin cX7_begin 3 none ∈ lw_tbl := List.mem_of_getElem? (i := 600) (by decide +kernel)
theorem wc_24 : Cond.code yX0_setUp cX0_setUp 1 none ∈ lw_tbl := List.mem_of_getElem? (i := 604) (by decide +kernel)
theorem wc_25 : Cond.code yX4_begin cX4_begin 3 none ∈ lw_tbl := List.mem_of_getElem? (i := 609) (by decide +kernel)
theorem wc_26 : Cond.code yX4_beginRow cX4_beginRow 2 none ∈ lw_tbl := List.mem_of_getElem? (i := 613) (by decide +kernel)
theorem wc_27 : Cond.code yX4_setCell cX4_setCell 4 none ∈ lw_tbl := List.mem_of_getElem? (i := 618) (by decide +kernel)
theorem wc_28 : Cond.code yX11_at cX11_at 2 (some (Jvm.ClassFile.FieldType.int)) ∈ lw_tbl := List.mem_of_getElem? (i := 621) (by decide +kernel)
theorem wc_29 : Cond.code yX7_layOut cX7_layOut 13 none ∈ lw_tbl := List.mem_of_getElem? (i := 626) (by decide +kernel)
theorem wc_30 : Cond.code yJ9_max_7cf53 cJ9_max_7cf53 2 (some (Jvm.ClassFile.FieldType.int)) ∈ lw_tbl := List.mem_of_getElem? (i := 629) (by decide +kernel)
theorem wc_31 : Cond.code yX7_isSpent cX7_isSpent 1 (some (Jvm.ClassFile.FieldType.boolean)) ∈ lw_tbl := List.mem_of_getElem? (i := 633) (by decide +kernel)
theorem wc_32 : Cond.code yX5_isBarred cX5_isBarred 6 (some (Jvm.ClassFile.FieldType.boolean)) ∈ lw_tbl := List.mem_of_getElem? (i := 637) (by decide +kernel)
theorem wc_33 : Cond.code yX7_tell cX7_tell 6 none ∈ lw_tbl := List.mem_of_getElem? (i := 642) (by decide +kernel)
theorem wc_34 : Cond.code yX4_whole cX4_whole 4 (some (Jvm.ClassFile.FieldType.int)) ∈ lw_tbl := List.mem_of_getElem? (i := 646) (by decide +kernel)
theorem wc_35 : Cond.code yX1_notesOf cX1_notesOf 2 (some (Jvm.ClassFile.FieldType.int)) ∈ lw_tbl := List.mem_of_getElem? (i := 650) (by decide +kernel)
theorem wc_36 : Cond.code yX4_cell cX4_cell 5 (some (Jvm.ClassFile.FieldType.int)) ∈ lw_tbl := List.mem_of_getElem? (i := 655) (by decide +kernel)
theorem wc_37 : Cond.code yX5_isLongEnough cX5_isLongEnough 4 (some (Jvm.ClassFile.FieldType.boolean)) ∈ lw_tbl := List.mem_of_getElem? (i := 659) (by decide +kernel)
theorem wc_38 : Cond.code yX3_tell cX3_tell 2 (some (Jvm.ClassFile.FieldType.int)) ∈ lw_tbl := List.mem_of_getElem? (i := 664) (by decide +kernel)
theorem wc_39 : Cond.code yX3_keep cX3_keep 4 none ∈ lw_tbl := List.mem_of_getElem? (i := 669) (by decide +kernel)
theorem wc_40 : Cond.code yX5_mostMoves cX5_mostMoves 2 (some (Jvm.ClassFile.FieldType.int)) ∈ lw_tbl := List.mem_of_getElem? (i := 674) (by decide +kernel)
theorem wc_41 : Cond.code yX4_hopeful cX4_hopeful 11 (some (Jvm.ClassFile.FieldType.long)) ∈ lw_tbl := List.mem_of_getElem? (i := 678) (by decide +kernel)
theorem wc_42 : Cond.code yX4_nearNotes cX4_nearNotes 10 (some (Jvm.ClassFile.FieldType.long)) ∈ lw_tbl := List.mem_of_getElem? (i := 682) (by decide +kernel)
theorem wc_43 : Cond.code yX1_noteCell cX1_noteCell 4 (some (Jvm.ClassFile.FieldType.int)) ∈ lw_tbl := List.mem_of_getElem? (i := 686) (by decide +kernel)
theorem wc_44 : Cond.code yX11_counted cX11_counted 3 (some (Jvm.ClassFile.FieldType.int)) ∈ lw_tbl := List.mem_of_getElem? (i := 689) (by decide +kernel)
theorem wc_45 : Cond.code yX4_bitOf cX4_bitOf 2 (some (Jvm.ClassFile.FieldType.long)) ∈ lw_tbl := List.mem_of_getElem? (i := 692) (by decide +kernel)
theorem wc_46 : Cond.code yX4_soFar cX4_soFar 4 (some (Jvm.ClassFile.FieldType.int)) ∈ lw_tbl := List.mem_of_getElem? (i := 696) (by decide +kernel)
theorem wc_47 : Cond.code yX0_reachOf cX0_reachOf 8 (some (Jvm.ClassFile.FieldType.long)) ∈ lw_tbl := List.mem_of_getElem? (i := 701) (by decide +kernel)
theorem wc_48 : Cond.code yX11_isOf cX11_isOf 2 (some (Jvm.ClassFile.FieldType.boolean)) ∈ lw_tbl := List.mem_of_getElem? (i := 705) (by decide +kernel)
theorem wc_49 : Cond.code yX11_kindOf cX11_kindOf 1 (some (Jvm.ClassFile.FieldType.int)) ∈ lw_tbl := List.mem_of_getElem? (i := 708) (by decide +kernel)
theorem wc_50 : Cond.code yX1_lineCell cX1_lineCell 4 (some (Jvm.ClassFile.FieldType.int)) ∈ lw_tbl := List.mem_of_getElem? (i := 712) (by decide +kernel)
theorem wc_51 : Cond.code yX0_reachBy cX0_reachBy 13 (some (Jvm.ClassFile.FieldType.long)) ∈ lw_tbl := List.mem_of_getElem? (i := 716) (by decide +kernel)
theorem wc_52 : Cond.code yX0_stepsOf cX0_stepsOf 2 (some (Jvm.ClassFile.FieldType.array Jvm.ClassFile.FieldType.int)) ∈ lw_tbl := List.mem_of_getElem? (i := 719) (by decide +kernel)
theorem wc_53 : Cond.code yX4_withMove cX4_withMove 19 (some (Jvm.ClassFile.FieldType.int)) ∈ lw_tbl := List.mem_of_getElem? (i := 738) (by decide +kernel)
theorem wc_54 : Cond.code yX4_slipOf cX4_slipOf 15 (some (Jvm.ClassFile.FieldType.int)) ∈ lw_tbl := List.mem_of_getElem? (i := 742) (by decide +kernel)
theorem wc_55 : Cond.code yX4_rankSlip cX4_rankSlip 5 (some (Jvm.ClassFile.FieldType.int)) ∈ lw_tbl := List.mem_of_getElem? (i := 746) (by decide +kernel)
theorem wc_56 : Cond.code yX1_isLikeNote cX1_isLikeNote 7 (some (Jvm.ClassFile.FieldType.boolean)) ∈ lw_tbl := List.mem_of_getElem? (i := 750) (by decide +kernel)
theorem wc_57 : Cond.code yX1_isLikeButForFrom cX1_isLikeButForFrom 7 (some (Jvm.ClassFile.FieldType.boolean)) ∈ lw_tbl := List.mem_of_getElem? (i := 754) (by decide +kernel)
theorem wc_58 : Cond.code yX0_go cX0_go 5 (some (Jvm.ClassFile.FieldType.int)) ∈ lw_tbl := List.mem_of_getElem? (i := 758) (by decide +kernel)
theorem wc_59 : Cond.code yX6_weigh cX6_weigh 11 (some (Jvm.ClassFile.FieldType.int)) ∈ lw_tbl := List.mem_of_getElem? (i := 764) (by decide +kernel)
theorem wc_60 : Cond.code yX1_valueOf cX1_valueOf 2 (some (Jvm.ClassFile.FieldType.int)) ∈ lw_tbl := List.mem_of_getElem? (i := 768) (by decide +kernel)
theorem wc_61 : Cond.code yX0_howManyMen cX0_howManyMen 4 (some (Jvm.ClassFile.FieldType.int)) ∈ lw_tbl := List.mem_of_getElem? (i := 774) (by decide +kernel)
theorem wc_62 : Cond.code yX6_pop cX6_pop 1 (some (Jvm.ClassFile.FieldType.int)) ∈ lw_tbl := List.mem_of_getElem? (i := 779) (by decide +kernel)
theorem wc_63 : Cond.code yX6_told cX6_told 2 (some (Jvm.ClassFile.FieldType.int)) ∈ lw_tbl := List.mem_of_getElem? (i := 783) (by decide +kernel)
theorem wc_64 : Cond.code yX6_push cX6_push 2 none ∈ lw_tbl := List.mem_of_getElem? (i := 787) (by decide +kernel)
theorem wc_65 : Cond.code yX6_worked cX6_worked 4 (some (Jvm.ClassFile.FieldType.int)) ∈ lw_tbl := List.mem_of_getElem? (i := 792) (by decide +kernel)
theorem wc_66 : Cond.code yX0_goBack cX0_goBack 5 none ∈ lw_tbl := List.mem_of_getElem? (i := 796) (by decide +kernel)
theorem wc_67 : Cond.code yX11_many cX11_many 2 (some (Jvm.ClassFile.FieldType.int)) ∈ lw_tbl := List.mem_of_getElem? (i := 800) (by decide +kernel)
theorem wc_68 : Cond.code yX11_part cX11_part 2 (some (Jvm.ClassFile.FieldType.int)) ∈ lw_tbl := List.mem_of_getElem? (i := 804) (by decide +kernel)
theorem wc_69 : Cond.code yX3_partsFrom cX3_partsFrom 3 (some (Jvm.ClassFile.FieldType.int)) ∈ lw_tbl := List.mem_of_getElem? (i := 808) (by decide +kernel)
theorem wc_70 : Cond.code yX11_image cX11_image 1 none ∈ lw_tbl := List.mem_of_getElem? (i := 812) (by decide +kernel)
theorem wc_71 : Cond.code yX1_become cX1_become 2 none ∈ lw_tbl := List.mem_of_getElem? (i := 816) (by decide +kernel)
theorem wc_72 : Cond.code yX11_back cX11_back 1 (some (Jvm.ClassFile.FieldType.boolean)) ∈ lw_tbl := List.mem_of_getElem? (i := 821) (by decide +kernel)
theorem wc_73 : Cond.code yX11_forget cX11_forget 1 none ∈ lw_tbl := List.mem_of_getElem? (i := 825) (by decide +kernel)
theorem wc_74 : Cond.code yX11_count cX11_count 2 (some (Jvm.ClassFile.FieldType.int)) ∈ lw_tbl := List.mem_of_getElem? (i := 829) (by decide +kernel)
theorem wc_75 : Cond.code yX1_menAtStart cX1_menAtStart 3 (some (Jvm.ClassFile.FieldType.int)) ∈ lw_tbl := List.mem_of_getElem? (i := 833) (by decide +kernel)
theorem wc_76 : Cond.code yX1_notesOfAll cX1_notesOfAll 3 (some (Jvm.ClassFile.FieldType.int)) ∈ lw_tbl := List.mem_of_getElem? (i := 837) (by decide +kernel)
theorem wc_77 : Cond.code yX1_valueAtStart cX1_valueAtStart 3 (some (Jvm.ClassFile.FieldType.int)) ∈ lw_tbl := List.mem_of_getElem? (i := 842) (by decide +kernel)
theorem wc_78 : Cond.code yX11_kind cX11_kind 3 (some (Jvm.ClassFile.FieldType.int)) ∈ lw_tbl := List.mem_of_getElem? (i := 852) (by decide +kernel)
theorem wc_79 : Cond.code yX2_reads cX2_reads 5 (some (Jvm.ClassFile.FieldType.boolean)) ∈ lw_tbl := List.mem_of_getElem? (i := 856) (by decide +kernel)
theorem wc_80 : Cond.code yX2_split cX2_split 5 none ∈ lw_tbl := List.mem_of_getElem? (i := 860) (by decide +kernel)
theorem wc_81 : Cond.code yX2_behindToken cX2_behindToken 3 (some (Jvm.ClassFile.FieldType.int)) ∈ lw_tbl := List.mem_of_getElem? (i := 865) (by decide +kernel)
theorem wc_82 : Cond.code yX2_isLetter cX2_isLetter 2 (some (Jvm.ClassFile.FieldType.boolean)) ∈ lw_tbl := List.mem_of_getElem? (i := 869) (by decide +kernel)
theorem wc_83 : Cond.code yX2_isDigit cX2_isDigit 2 (some (Jvm.ClassFile.FieldType.boolean)) ∈ lw_tbl := List.mem_of_getElem? (i := 873) (by decide +kernel)
theorem wc_84 : Cond.code yX2_tokenOf cX2_tokenOf 3 (some (Jvm.ClassFile.FieldType.int)) ∈ lw_tbl := List.mem_of_getElem? (i := 878) (by decide +kernel)
theorem wc_85 : Cond.code yX2_wordOf cX2_wordOf 6 (some (Jvm.ClassFile.FieldType.int)) ∈ lw_tbl := List.mem_of_getElem? (i := 882) (by decide +kernel)
theorem wc_86 : Cond.code yX2_numberOf cX2_numberOf 5 (some (Jvm.ClassFile.FieldType.int)) ∈ lw_tbl := List.mem_of_getElem? (i := 935) (by decide +kernel)
theorem wc_87 : Cond.code yX2_isMeasureLine cX2_isMeasureLine 1 (some (Jvm.ClassFile.FieldType.boolean)) ∈ lw_tbl := List.mem_of_getElem? (i := 939) (by decide +kernel)
theorem wc_88 : Cond.code yX2_fail cX2_fail 1 (some (Jvm.ClassFile.FieldType.boolean)) ∈ lw_tbl := List.mem_of_getElem? (i := 943) (by decide +kernel)
theorem wc_89 : Cond.code yX2_pass cX2_pass 1 none ∈ lw_tbl := List.mem_of_getElem? (i := 947) (by decide +kernel)
theorem wc_90 : Cond.code yX2_emit cX2_emit 2 none ∈ lw_tbl := List.mem_of_getElem? (i := 951) (by decide +kernel)
theorem wc_91 : Cond.code yX2_isFact cX2_isFact 1 (some (Jvm.ClassFile.FieldType.boolean)) ∈ lw_tbl := List.mem_of_getElem? (i := 955) (by decide +kernel)
theorem wc_92 : Cond.code yX2_isCondition cX2_isCondition 5 (some (Jvm.ClassFile.FieldType.boolean)) ∈ lw_tbl := List.mem_of_getElem? (i := 959) (by decide +kernel)
theorem wc_93 : Cond.code yX2_isAtom cX2_isAtom 3 (some (Jvm.ClassFile.FieldType.boolean)) ∈ lw_tbl := List.mem_of_getElem? (i := 963) (by decide +kernel)
theorem wc_94 : Cond.code yX2_isNested cX2_isNested 3 (some (Jvm.ClassFile.FieldType.boolean)) ∈ lw_tbl := List.mem_of_getElem? (i := 967) (by decide +kernel)
theorem wc_95 : Cond.code yX2_isSum cX2_isSum 2 (some (Jvm.ClassFile.FieldType.boolean)) ∈ lw_tbl := List.mem_of_getElem? (i := 971) (by decide +kernel)
theorem wc_96 : Cond.code yX2_isKindLine cX2_isKindLine 3 (some (Jvm.ClassFile.FieldType.boolean)) ∈ lw_tbl := List.mem_of_getElem? (i := 975) (by decide +kernel)
theorem wc_97 : Cond.code yX11_useTapeUp cX11_useTapeUp 1 none ∈ lw_tbl := List.mem_of_getElem? (i := 979) (by decide +kernel)
theorem wc_98 : Cond.code yX1_addKind cX1_addKind 4 none ∈ lw_tbl := List.mem_of_getElem? (i := 1068) (by decide +kernel)
theorem wc_99 : Cond.code yX11_measure cX11_measure 2 (some (Jvm.ClassFile.FieldType.int)) ∈ lw_tbl := List.mem_of_getElem? (i := 1076) (by decide +kernel)
theorem wc_100 : Cond.code yX1_setMeasure cX1_setMeasure 2 none ∈ lw_tbl := List.mem_of_getElem? (i := 1081) (by decide +kernel)
theorem wc_101 : Cond.code yX11_put cX11_put 4 none ∈ lw_tbl := List.mem_of_getElem? (i := 1089) (by decide +kernel)
theorem wc_102 : Cond.code yX11_isSquare cX11_isSquare 1 (some (Jvm.ClassFile.FieldType.boolean)) ∈ lw_tbl := List.mem_of_getElem? (i := 1092) (by decide +kernel)
theorem wc_103 : Cond.code yX11_isKindOrNone cX11_isKindOrNone 2 (some (Jvm.ClassFile.FieldType.boolean)) ∈ lw_tbl := List.mem_of_getElem? (i := 1096) (by decide +kernel)
theorem wc_104 : Cond.code yX11_isKind cX11_isKind 2 (some (Jvm.ClassFile.FieldType.boolean)) ∈ lw_tbl := List.mem_of_getElem? (i := 1100) (by decide +kernel)
theorem wc_105 : Cond.code yX11_isSide cX11_isSide 1 (some (Jvm.ClassFile.FieldType.boolean)) ∈ lw_tbl := List.mem_of_getElem? (i := 1119) (by decide +kernel)
theorem wc_106 : Cond.code yX11_manOf cX11_manOf 2 (some (Jvm.ClassFile.FieldType.int)) ∈ lw_tbl := List.mem_of_getElem? (i := 1123) (by decide +kernel)
theorem wc_107 : Cond.code yX11_moves cX11_moves 3 (some (Jvm.ClassFile.FieldType.int)) ∈ lw_tbl := List.mem_of_getElem? (i := 1131) (by decide +kernel)
theorem wc_108 : Cond.code yX0_howManyMoves cX0_howManyMoves 4 (some (Jvm.ClassFile.FieldType.int)) ∈ lw_tbl := List.mem_of_getElem? (i := 1137) (by decide +kernel)
theorem wc_109 : Cond.code yJ13_bitCount_95d88 cJ13_bitCount_95d88 2 (some (Jvm.ClassFile.FieldType.int)) ∈ lw_tbl := List.mem_of_getElem? (i := 1141) (by decide +kernel)
theorem wc_110 : Cond.code yX0_moveAt cX0_moveAt 8 (some (Jvm.ClassFile.FieldType.int)) ∈ lw_tbl := List.mem_of_getElem? (i := 1148) (by decide +kernel)
theorem wc_111 : Cond.code yX0_bitAt cX0_bitAt 5 (some (Jvm.ClassFile.FieldType.int)) ∈ lw_tbl := List.mem_of_getElem? (i := 1151) (by decide +kernel)
theorem wc_112 : Cond.code yX11_book cX11_book 2 (some (Jvm.ClassFile.FieldType.int)) ∈ lw_tbl := List.mem_of_getElem? (i := 1158) (by decide +kernel)
theorem wc_113 : Cond.code yX11_isWay cX11_isWay 1 (some (Jvm.ClassFile.FieldType.boolean)) ∈ lw_tbl := List.mem_of_getElem? (i := 1161) (by decide +kernel)
theorem wc_114 : Cond.code yX1_addBook cX1_addBook 2 (some (Jvm.ClassFile.FieldType.int)) ∈ lw_tbl := List.mem_of_getElem? (i := 1167) (by decide +kernel)
theorem wc_115 : Cond.code yX11_note cX11_note 7 (some (Jvm.ClassFile.FieldType.int)) ∈ lw_tbl := List.mem_of_getElem? (i := 1174) (by decide +kernel)
theorem wc_116 : Cond.code yX11_isBook cX11_isBook 2 (some (Jvm.ClassFile.FieldType.boolean)) ∈ lw_tbl := List.mem_of_getElem? (i := 1178) (by decide +kernel)
theorem wc_117 : Cond.code yX11_isPlace cX11_isPlace 3 (some (Jvm.ClassFile.FieldType.boolean)) ∈ lw_tbl := List.mem_of_getElem? (i := 1182) (by decide +kernel)
theorem wc_118 : Cond.code yX1_addNote cX1_addNote 3 (some (Jvm.ClassFile.FieldType.int)) ∈ lw_tbl := List.mem_of_getElem? (i := 1189) (by decide +kernel)
theorem wc_119 : Cond.code yX1_setNote cX1_setNote 8 none ∈ lw_tbl := List.mem_of_getElem? (i := 1193) (by decide +kernel)
theorem wc_120 : Cond.code yX11_change cX11_change 8 (some (Jvm.ClassFile.FieldType.boolean)) ∈ lw_tbl := List.mem_of_getElem? (i := 1200) (by decide +kernel)
theorem wc_121 : Cond.code yX11_isNote cX11_isNote 3 (some (Jvm.ClassFile.FieldType.boolean)) ∈ lw_tbl := List.mem_of_getElem? (i := 1204) (by decide +kernel)
theorem wc_122 : Cond.code yX11_look cX11_look 4 (some (Jvm.ClassFile.FieldType.int)) ∈ lw_tbl := List.mem_of_getElem? (i := 1214) (by decide +kernel)
theorem wc_123 : Cond.code yX11_write cX11_write 6 (some (Jvm.ClassFile.FieldType.int)) ∈ lw_tbl := List.mem_of_getElem? (i := 1238) (by decide +kernel)
theorem wc_124 : Cond.code yX10_init cX10_init 4 none ∈ lw_tbl := List.mem_of_getElem? (i := 1244) (by decide +kernel)
theorem wc_125 : Cond.code yX10_fill cX10_fill 8 none ∈ lw_tbl := List.mem_of_getElem? (i := 1259) (by decide +kernel)
theorem wc_126 : Cond.code yX10_draw cX10_draw 1 (some (Jvm.ClassFile.FieldType.int)) ∈ lw_tbl := List.mem_of_getElem? (i := 1264) (by decide +kernel)
theorem wc_127 : Cond.code yX10_writeNote cX10_writeNote 7 none ∈ lw_tbl := List.mem_of_getElem? (i := 1270) (by decide +kernel)
theorem wc_128 : Cond.code yX10_addSlip cX10_addSlip 7 none ∈ lw_tbl := List.mem_of_getElem? (i := 1280) (by decide +kernel)
theorem wc_129 : Cond.code yX10_oneMore cX10_oneMore 1 (some (Jvm.ClassFile.FieldType.int)) ∈ lw_tbl := List.mem_of_getElem? (i := 1284) (by decide +kernel)
theorem wc_130 : Cond.code yX11_price cX11_price 4 (some (Jvm.ClassFile.FieldType.int)) ∈ lw_tbl := List.mem_of_getElem? (i := 1292) (by decide +kernel)
theorem wc_131 : Cond.code yX11_isSlip cX11_isSlip 1 (some (Jvm.ClassFile.FieldType.boolean)) ∈ lw_tbl := List.mem_of_getElem? (i := 1295) (by decide +kernel)
theorem wc_132 : Cond.code yX11_length cX11_length 2 none ∈ lw_tbl := List.mem_of_getElem? (i := 1305) (by decide +kernel)
theorem wc_133 : Cond.code yX11_picture cX11_picture 5 (some (Jvm.ClassFile.FieldType.int)) ∈ lw_tbl := List.mem_of_getElem? (i := 1313) (by decide +kernel)
theorem wc_134 : Cond.code yX1_addPicture cX1_addPicture 5 none ∈ lw_tbl := List.mem_of_getElem? (i := 1319) (by decide +kernel)
theorem wc_135 : Cond.code yX11_read cX11_read 3 (some (Jvm.ClassFile.FieldType.int)) ∈ lw_tbl := List.mem_of_getElem? (i := 1326) (by decide +kernel)
theorem wc_136 : Cond.code yX11_readNext cX11_readNext 3 (some (Jvm.ClassFile.FieldType.int)) ∈ lw_tbl := List.mem_of_getElem? (i := 1335) (by decide +kernel)
theorem wc_137 : Cond.code yX11_slip cX11_slip 4 (some (Jvm.ClassFile.FieldType.int)) ∈ lw_tbl := List.mem_of_getElem? (i := 1342) (by decide +kernel)
theorem wc_138 : Cond.code yX9_follow cX9_follow 4 none ∈ lw_tbl := List.mem_of_getElem? (i := 1346) (by decide +kernel)
theorem wc_139 : Cond.code yJ7_fill_53178 cJ7_fill_53178 4 none ∈ lw_tbl := List.mem_of_getElem? (i := 1357) (by decide +kernel)
theorem wc_140 : Cond.code yX9_followBack cX9_followBack 6 none ∈ lw_tbl := List.mem_of_getElem? (i := 1361) (by decide +kernel)
theorem wc_141 : Cond.code yX9_slipOfLast cX9_slipOfLast 8 (some (Jvm.ClassFile.FieldType.int)) ∈ lw_tbl := List.mem_of_getElem? (i := 1366) (by decide +kernel)
theorem wc_142 : Cond.code yX9_slipOfNote cX9_slipOfNote 3 (some (Jvm.ClassFile.FieldType.int)) ∈ lw_tbl := List.mem_of_getElem? (i := 1372) (by decide +kernel)
theorem wc_143 : Cond.code yX11_slips cX11_slips 4 (some (Jvm.ClassFile.FieldType.int)) ∈ lw_tbl := List.mem_of_getElem? (i := 1379) (by decide +kernel)
theorem wc_144 : Cond.code yX9_howManySlips cX9_howManySlips 5 (some (Jvm.ClassFile.FieldType.int)) ∈ lw_tbl := List.mem_of_getElem? (i := 1384) (by decide +kernel)
theorem wc_145 : Cond.code yX9_slipOfMove cX9_slipOfMove 4 (some (Jvm.ClassFile.FieldType.int)) ∈ lw_tbl := List.mem_of_getElem? (i := 1388) (by decide +kernel)
theorem wc_146 : Cond.code yX9_noteOfMove cX9_noteOfMove 3 (some (Jvm.ClassFile.FieldType.int)) ∈ lw_tbl := List.mem_of_getElem? (i := 1392) (by decide +kernel)
theorem wc_147 : Cond.code yX11_breaks cX11_breaks 3 (some (Jvm.ClassFile.FieldType.int)) ∈ lw_tbl := List.mem_of_getElem? (i := 1400) (by decide +kernel)
theorem wc_148 : Cond.code yX5_askOne cX5_askOne 3 none ∈ lw_tbl := List.mem_of_getElem? (i := 1405) (by decide +kernel)
theorem wc_149 : Cond.code yX5_leaveSlipsAndBounds cX5_leaveSlipsAndBounds 1 none ∈ lw_tbl := List.mem_of_getElem? (i := 1410) (by decide +kernel)
theorem wc_150 : Cond.code yX7_deepestForNothing cX7_deepestForNothing 1 (some (Jvm.ClassFile.FieldType.int)) ∈ lw_tbl := List.mem_of_getElem? (i := 1415) (by decide +kernel)
theorem wc_151 : Cond.code yX11_brief cX11_brief 5 (some (Jvm.ClassFile.FieldType.int)) ∈ lw_tbl := List.mem_of_getElem? (i := 1422) (by decide +kernel)
theorem wc_152 : Cond.code yX0_howManyLike cX0_howManyLike 7 (some (Jvm.ClassFile.FieldType.int)) ∈ lw_tbl := List.mem_of_getElem? (i := 1428) (by decide +kernel)
theorem wc_153 : Cond.code yX11_best cX11_best 3 (some (Jvm.ClassFile.FieldType.int)) ∈ lw_tbl := List.mem_of_getElem? (i := 1435) (by decide +kernel)
theorem wc_154 : Cond.code yX7_findBest cX7_findBest 1 none ∈ lw_tbl := List.mem_of_getElem? (i := 1439) (by decide +kernel)
theorem wc_155 : Cond.code yX11_odds cX11_odds 7 (some (Jvm.ClassFile.FieldType.long)) ∈ lw_tbl := List.mem_of_getElem? (i := 1446) (by decide +kernel)
theorem wc_156 : Cond.code yX7_weighs cX7_weighs 4 (some (Jvm.ClassFile.FieldType.boolean)) ∈ lw_tbl := List.mem_of_getElem? (i := 1451) (by decide +kernel)
theorem wc_157 : Cond.code yX11_commonPart cX11_commonPart 11 (some (Jvm.ClassFile.FieldType.long)) ∈ lw_tbl := List.mem_of_getElem? (i := 1456) (by decide +kernel)
theorem wc_158 : Cond.code yX11_shared cX11_shared 6 (some (Jvm.ClassFile.FieldType.int)) ∈ lw_tbl := List.mem_of_getElem? (i := 1463) (by decide +kernel)
theorem wc_159 : Cond.code yX9_howManyShared cX9_howManyShared 6 (some (Jvm.ClassFile.FieldType.int)) ∈ lw_tbl := List.mem_of_getElem? (i := 1467) (by decide +kernel)
theorem wc_160 : Cond.code yX9_isSlipOfNote cX9_isSlipOfNote 1 (some (Jvm.ClassFile.FieldType.boolean)) ∈ lw_tbl := List.mem_of_getElem? (i := 1470) (by decide +kernel)
theorem wc_161 : Cond.code yX9_howManyOwn cX9_howManyOwn 6 (some (Jvm.ClassFile.FieldType.int)) ∈ lw_tbl := List.mem_of_getElem? (i := 1475) (by decide +kernel)
theorem wc_162 : Cond.code yX11_alike cX11_alike 3 (some (Jvm.ClassFile.FieldType.int)) ∈ lw_tbl := List.mem_of_getElem? (i := 1482) (by decide +kernel)
theorem wc_163 : Cond.code yX1_mostInCommon cX1_mostInCommon 9 (some (Jvm.ClassFile.FieldType.int)) ∈ lw_tbl := List.mem_of_getElem? (i := 1486) (by decide +kernel)
theorem wc_164 : Cond.code yX11_way cX11_way 4 (some (Jvm.ClassFile.FieldType.int)) ∈ lw_tbl := List.mem_of_getElem? (i := 1495) (by decide +kernel)
theorem wc_165 : Cond.code yX11_leastBy cX11_leastBy 3 (some (Jvm.ClassFile.FieldType.int)) ∈ lw_tbl := List.mem_of_getElem? (i := 1499) (by decide +kernel)
theorem wc_166 : Cond.code yX11_cheaper cX11_cheaper 3 (some (Jvm.ClassFile.FieldType.int)) ∈ lw_tbl := List.mem_of_getElem? (i := 1506) (by decide +kernel)
theorem wc_167 : Cond.code yX12_thrown cX12_thrown 1 (some (Jvm.ClassFile.FieldType.int)) ∈ lw_tbl := List.mem_of_getElem? (i := 1510) (by decide +kernel)
theorem wc_168 : Cond.code yX12_init cX12_init 2 none ∈ lw_tbl := List.mem_of_getElem? (i := 1515) (by decide +kernel)
theorem wc_169 : Cond.code yX12_image cX12_image 2 none ∈ lw_tbl := List.mem_of_getElem? (i := 1679) (by decide +kernel)
theorem wc_170 : Cond.code yX12_back cX12_back 2 (some (Jvm.ClassFile.FieldType.boolean)) ∈ lw_tbl := List.mem_of_getElem? (i := 1683) (by decide +kernel)
theorem wc_171 : Cond.code yX12_feed cX12_feed 7 (some (Jvm.ClassFile.FieldType.int)) ∈ lw_tbl := List.mem_of_getElem? (i := 1687) (by decide +kernel)
theorem wc_172 : Cond.code yX12_end cX12_end 2 (some (Jvm.ClassFile.FieldType.boolean)) ∈ lw_tbl := List.mem_of_getElem? (i := 1691) (by decide +kernel)
theorem wc_173 : Cond.code yX12_fault cX12_fault 1 (some (Jvm.ClassFile.FieldType.int)) ∈ lw_tbl := List.mem_of_getElem? (i := 1695) (by decide +kernel)
theorem wc_174 : Cond.code yX12_kind cX12_kind 5 (some (Jvm.ClassFile.FieldType.int)) ∈ lw_tbl := List.mem_of_getElem? (i := 1699) (by decide +kernel)
theorem wc_175 : Cond.code yX12_readAll cX12_readAll 3 (some (Jvm.ClassFile.FieldType.int)) ∈ lw_tbl := List.mem_of_getElem? (i := 1703) (by decide +kernel)
theorem wc_176 : Cond.code yX12_blanks cX12_blanks 1 none ∈ lw_tbl := List.mem_of_getElem? (i := 1707) (by decide +kernel)
theorem wc_177 : Cond.code yX12_isAt cX12_isAt 3 (some (Jvm.ClassFile.FieldType.boolean)) ∈ lw_tbl := List.mem_of_getElem? (i := 1711) (by decide +kernel)
theorem wc_178 : Cond.code yX12_letters cX12_letters 1 none ∈ lw_tbl := List.mem_of_getElem? (i := 1715) (by decide +kernel)
theorem wc_179 : Cond.code yX12_readKindLine cX12_readKindLine 3 (some (Jvm.ClassFile.FieldType.boolean)) ∈ lw_tbl := List.mem_of_getElem? (i := 1719) (by decide +kernel)
theorem wc_180 : Cond.code yX12_isWord cX12_isWord 4 (some (Jvm.ClassFile.FieldType.boolean)) ∈ lw_tbl := List.mem_of_getElem? (i := 1724) (by decide +kernel)
theorem wc_181 : Cond.code yX12_number cX12_number 4 (some (Jvm.ClassFile.FieldType.int)) ∈ lw_tbl := List.mem_of_getElem? (i := 1734) (by decide +kernel)
theorem wc_182 : Cond.code yX12_readMeasureLine cX12_readMeasureLine 3 (some (Jvm.ClassFile.FieldType.boolean)) ∈ lw_tbl := List.mem_of_getElem? (i := 1738) (by decide +kernel)
theorem wc_183 : Cond.code yX12_keepsAt cX12_keepsAt 3 (some (Jvm.ClassFile.FieldType.boolean)) ∈ lw_tbl := List.mem_of_getElem? (i := 1743) (by decide +kernel)
theorem wc_184 : Cond.code yX12_sign cX12_sign 2 (some (Jvm.ClassFile.FieldType.boolean)) ∈ lw_tbl := List.mem_of_getElem? (i := 1747) (by decide +kernel)
theorem wc_185 : Cond.code yX12_factAt cX12_factAt 1 (some (Jvm.ClassFile.FieldType.int)) ∈ lw_tbl := List.mem_of_getElem? (i := 1751) (by decide +kernel)
theorem wc_186 : Cond.code yX12_passes cX12_passes 2 (some (Jvm.ClassFile.FieldType.boolean)) ∈ lw_tbl := List.mem_of_getElem? (i := 1760) (by decide +kernel)
theorem wc_187 : Cond.code yX12_readCond cX12_readCond 1 (some (Jvm.ClassFile.FieldType.boolean)) ∈ lw_tbl := List.mem_of_getElem? (i := 1764) (by decide +kernel)
theorem wc_188 : Cond.code yX12_readAllOf cX12_readAllOf 1 (some (Jvm.ClassFile.FieldType.boolean)) ∈ lw_tbl := List.mem_of_getElem? (i := 1768) (by decide +kernel)
theorem wc_189 : Cond.code yX12_readAtom cX12_readAtom 3 (some (Jvm.ClassFile.FieldType.boolean)) ∈ lw_tbl := List.mem_of_getElem? (i := 1772) (by decide +kernel)
theorem wc_190 : Cond.code yX12_emits cX12_emits 4 none ∈ lw_tbl := List.mem_of_getElem? (i := 1777) (by decide +kernel)
theorem wc_191 : Cond.code yX12_readSum cX12_readSum 1 (some (Jvm.ClassFile.FieldType.boolean)) ∈ lw_tbl := List.mem_of_getElem? (i := 1783) (by decide +kernel)
theorem wc_192 : Cond.code yX12_readPart cX12_readPart 2 (some (Jvm.ClassFile.FieldType.boolean)) ∈ lw_tbl := List.mem_of_getElem? (i := 1787) (by decide +kernel)
theorem wc_193 : Cond.code yX12_in cX12_in 3 (some (Jvm.ClassFile.FieldType.boolean)) ∈ lw_tbl := List.mem_of_getElem? (i := 1792) (by decide +kernel)
theorem wc_194 : Cond.code yX12_throwsIf cX12_throwsIf 3 (some (Jvm.ClassFile.FieldType.boolean)) ∈ lw_tbl := List.mem_of_getElem? (i := 1796) (by decide +kernel)
theorem wc_195 : Cond.code yX12_measure cX12_measure 3 (some (Jvm.ClassFile.FieldType.int)) ∈ lw_tbl := List.mem_of_getElem? (i := 1800) (by decide +kernel)
theorem wc_196 : Cond.code yX12_put cX12_put 4 none ∈ lw_tbl := List.mem_of_getElem? (i := 1804) (by decide +kernel)
theorem wc_197 : Cond.code yX12_noSquare cX12_noSquare 1 (some (Jvm.ClassFile.FieldType.boolean)) ∈ lw_tbl := List.mem_of_getElem? (i := 1807) (by decide +kernel)
theorem wc_198 : Cond.code yX12_noKind cX12_noKind 2 (some (Jvm.ClassFile.FieldType.boolean)) ∈ lw_tbl := List.mem_of_getElem? (i := 1811) (by decide +kernel)
theorem wc_199 : Cond.code yX12_none cX12_none 3 (some (Jvm.ClassFile.FieldType.boolean)) ∈ lw_tbl := List.mem_of_getElem? (i := 1815) (by decide +kernel)
theorem wc_200 : Cond.code yX12_man cX12_man 2 (some (Jvm.ClassFile.FieldType.int)) ∈ lw_tbl := List.mem_of_getElem? (i := 1818) (by decide +kernel)
theorem wc_201 : Cond.code yX12_book cX12_book 3 (some (Jvm.ClassFile.FieldType.int)) ∈ lw_tbl := List.mem_of_getElem? (i := 1822) (by decide +kernel)
theorem wc_202 : Cond.code yX12_note cX12_note 6 (some (Jvm.ClassFile.FieldType.int)) ∈ lw_tbl := List.mem_of_getElem? (i := 1826) (by decide +kernel)
theorem wc_203 : Cond.code yX12_noBook cX12_noBook 2 (some (Jvm.ClassFile.FieldType.boolean)) ∈ lw_tbl := List.mem_of_getElem? (i := 1830) (by decide +kernel)
theorem wc_204 : Cond.code yX12_badNote cX12_badNote 3 (some (Jvm.ClassFile.FieldType.boolean)) ∈ lw_tbl := List.mem_of_getElem? (i := 1833) (by decide +kernel)
theorem wc_205 : Cond.code yX12_notes cX12_notes 2 (some (Jvm.ClassFile.FieldType.int)) ∈ lw_tbl := List.mem_of_getElem? (i := 1837) (by decide +kernel)
theorem wc_206 : Cond.code yX12_ofBook cX12_ofBook 3 (some (Jvm.ClassFile.FieldType.int)) ∈ lw_tbl := List.mem_of_getElem? (i := 1841) (by decide +kernel)
theorem wc_207 : Cond.code yX12_addsNote cX12_addsNote 6 (some (Jvm.ClassFile.FieldType.int)) ∈ lw_tbl := List.mem_of_getElem? (i := 1845) (by decide +kernel)
theorem wc_208 : Cond.code yX12_setsNote cX12_setsNote 8 none ∈ lw_tbl := List.mem_of_getElem? (i := 1849) (by decide +kernel)
theorem wc_209 : Cond.code yX12_change cX12_change 8 (some (Jvm.ClassFile.FieldType.boolean)) ∈ lw_tbl := List.mem_of_getElem? (i := 1853) (by decide +kernel)
theorem wc_210 : Cond.code yX12_noNote cX12_noNote 3 (some (Jvm.ClassFile.FieldType.boolean)) ∈ lw_tbl := List.mem_of_getElem? (i := 1857) (by decide +kernel)
theorem wc_211 : Cond.code yX12_ofNote cX12_ofNote 4 (some (Jvm.ClassFile.FieldType.int)) ∈ lw_tbl := List.mem_of_getElem? (i := 1861) (by decide +kernel)
theorem wc_212 : Cond.code yX12_look cX12_look 4 (some (Jvm.ClassFile.FieldType.int)) ∈ lw_tbl := List.mem_of_getElem? (i := 1865) (by decide +kernel)
theorem wc_213 : Cond.code yX12_price cX12_price 4 (some (Jvm.ClassFile.FieldType.int)) ∈ lw_tbl := List.mem_of_getElem? (i := 1869) (by decide +kernel)
theorem wc_214 : Cond.code yX12_length cX12_length 2 none ∈ lw_tbl := List.mem_of_getElem? (i := 1873) (by decide +kernel)
theorem wc_215 : Cond.code yX12_picture cX12_picture 6 (some (Jvm.ClassFile.FieldType.int)) ∈ lw_tbl := List.mem_of_getElem? (i := 1877) (by decide +kernel)
theorem wc_216 : Cond.code yX12_moves cX12_moves 3 (some (Jvm.ClassFile.FieldType.int)) ∈ lw_tbl := List.mem_of_getElem? (i := 1881) (by decide +kernel)
theorem wc_217 : Cond.code yX12_begins cX12_begins 2 none ∈ lw_tbl := List.mem_of_getElem? (i := 1885) (by decide +kernel)
theorem wc_218 : Cond.code yX12_finds cX12_finds 4 none ∈ lw_tbl := List.mem_of_getElem? (i := 1889) (by decide +kernel)
theorem wc_219 : Cond.code yX12_at cX12_at 3 (some (Jvm.ClassFile.FieldType.int)) ∈ lw_tbl := List.mem_of_getElem? (i := 1893) (by decide +kernel)
theorem wc_220 : Cond.code yX12_sideOf cX12_sideOf 1 (some (Jvm.ClassFile.FieldType.int)) ∈ lw_tbl := List.mem_of_getElem? (i := 1896) (by decide +kernel)
theorem wc_221 : Cond.code yX12_goes cX12_goes 11 none ∈ lw_tbl := List.mem_of_getElem? (i := 1900) (by decide +kernel)
theorem wc_222 : Cond.code yX12_along cX12_along 10 none ∈ lw_tbl := List.mem_of_getElem? (i := 1904) (by decide +kernel)
theorem wc_223 : Cond.code yX12_off cX12_off 5 (some (Jvm.ClassFile.FieldType.int)) ∈ lw_tbl := List.mem_of_getElem? (i := 1907) (by decide +kernel)
theorem wc_224 : Cond.code yX12_may cX12_may 4 none ∈ lw_tbl := List.mem_of_getElem? (i := 1911) (by decide +kernel)
theorem wc_225 : Cond.code yX12_leaps cX12_leaps 5 none ∈ lw_tbl := List.mem_of_getElem? (i := 1915) (by decide +kernel)
theorem wc_226 : Cond.code yX12_bites cX12_bites 6 none ∈ lw_tbl := List.mem_of_getElem? (i := 1919) (by decide +kernel)
theorem wc_227 : Cond.code yX12_manyAt cX12_manyAt 4 (some (Jvm.ClassFile.FieldType.int)) ∈ lw_tbl := List.mem_of_getElem? (i := 1923) (by decide +kernel)
theorem wc_228 : Cond.code yX12_moveAt cX12_moveAt 5 (some (Jvm.ClassFile.FieldType.int)) ∈ lw_tbl := List.mem_of_getElem? (i := 1927) (by decide +kernel)
theorem wc_229 : Cond.code yX12_least cX12_least 1 (some (Jvm.ClassFile.FieldType.int)) ∈ lw_tbl := List.mem_of_getElem? (i := 1931) (by decide +kernel)
theorem wc_230 : Cond.code yX12_asksWhole cX12_asksWhole 1 (some (Jvm.ClassFile.FieldType.int)) ∈ lw_tbl := List.mem_of_getElem? (i := 1935) (by decide +kernel)
theorem wc_231 : Cond.code yX12_asksAll cX12_asksAll 2 none ∈ lw_tbl := List.mem_of_getElem? (i := 1939) (by decide +kernel)
theorem wc_232 : Cond.code yX12_asks cX12_asks 2 (some (Jvm.ClassFile.FieldType.int)) ∈ lw_tbl := List.mem_of_getElem? (i := 1943) (by decide +kernel)
theorem wc_233 : Cond.code yX12_laysAll cX12_laysAll 6 none ∈ lw_tbl := List.mem_of_getElem? (i := 1947) (by decide +kernel)
theorem wc_234 : Cond.code yX12_prices cX12_prices 5 none ∈ lw_tbl := List.mem_of_getElem? (i := 1951) (by decide +kernel)
theorem wc_235 : Cond.code yX12_isAsked cX12_isAsked 2 (some (Jvm.ClassFile.FieldType.boolean)) ∈ lw_tbl := List.mem_of_getElem? (i := 1955) (by decide +kernel)
theorem wc_236 : Cond.code yX12_sums cX12_sums 5 none ∈ lw_tbl := List.mem_of_getElem? (i := 1959) (by decide +kernel)
theorem wc_237 : Cond.code yX12_ofMove cX12_ofMove 4 (some (Jvm.ClassFile.FieldType.int)) ∈ lw_tbl := List.mem_of_getElem? (i := 1963) (by decide +kernel)
theorem wc_238 : Cond.code yX12_sumAt cX12_sumAt 3 (some (Jvm.ClassFile.FieldType.int)) ∈ lw_tbl := List.mem_of_getElem? (i := 1966) (by decide +kernel)
theorem wc_239 : Cond.code yX12_fitAt cX12_fitAt 3 (some (Jvm.ClassFile.FieldType.int)) ∈ lw_tbl := List.mem_of_getElem? (i := 1969) (by decide +kernel)
theorem wc_240 : Cond.code yX12_ofLost cX12_ofLost 4 (some (Jvm.ClassFile.FieldType.int)) ∈ lw_tbl := List.mem_of_getElem? (i := 1973) (by decide +kernel)
theorem wc_241 : Cond.code yX12_ofTwice cX12_ofTwice 4 (some (Jvm.ClassFile.FieldType.int)) ∈ lw_tbl := List.mem_of_getElem? (i := 1977) (by decide +kernel)
theorem wc_242 : Cond.code yX12_isTwice cX12_isTwice 5 (some (Jvm.ClassFile.FieldType.boolean)) ∈ lw_tbl := List.mem_of_getElem? (i := 1981) (by decide +kernel)
theorem wc_243 : Cond.code yX12_lays cX12_lays 3 none ∈ lw_tbl := List.mem_of_getElem? (i := 1986) (by decide +kernel)
theorem wc_244 : Cond.code yX12_measures cX12_measures 7 none ∈ lw_tbl := List.mem_of_getElem? (i := 1991) (by decide +kernel)
theorem wc_245 : Cond.code yX12_valueOf cX12_valueOf 2 (some (Jvm.ClassFile.FieldType.int)) ∈ lw_tbl := List.mem_of_getElem? (i := 1995) (by decide +kernel)
theorem wc_246 : Cond.code yX12_measured cX12_measured 4 (some (Jvm.ClassFile.FieldType.int)) ∈ lw_tbl := List.mem_of_getElem? (i := 1999) (by decide +kernel)
theorem wc_247 : Cond.code yX12_holdsLine cX12_holdsLine 8 (some (Jvm.ClassFile.FieldType.boolean)) ∈ lw_tbl := List.mem_of_getElem? (i := 2003) (by decide +kernel)
theorem wc_248 : Cond.code yX12_meets cX12_meets 3 none ∈ lw_tbl := List.mem_of_getElem? (i := 2007) (by decide +kernel)
theorem wc_249 : Cond.code yX12_isBarred cX12_isBarred 5 (some (Jvm.ClassFile.FieldType.boolean)) ∈ lw_tbl := List.mem_of_getElem? (i := 2011) (by decide +kernel)
theorem wc_250 : Cond.code yX12_isLongEnough cX12_isLongEnough 4 (some (Jvm.ClassFile.FieldType.boolean)) ∈ lw_tbl := List.mem_of_getElem? (i := 2015) (by decide +kernel)
theorem wc_251 : Cond.code yX12_takes cX12_takes 4 (some (Jvm.ClassFile.FieldType.int)) ∈ lw_tbl := List.mem_of_getElem? (i := 2019) (by decide +kernel)
theorem wc_252 : Cond.code yX12_goesOn cX12_goesOn 2 (some (Jvm.ClassFile.FieldType.boolean)) ∈ lw_tbl := List.mem_of_getElem? (i := 2023) (by decide +kernel)
theorem wc_253 : Cond.code yX12_makes cX12_makes 4 none ∈ lw_tbl := List.mem_of_getElem? (i := 2027) (by decide +kernel)
theorem wc_254 : Cond.code yX12_tries cX12_tries 14 none ∈ lw_tbl := List.mem_of_getElem? (i := 2031) (by decide +kernel)
theorem wc_255 : Cond.code yX12_fits cX12_fits 9 (some (Jvm.ClassFile.FieldType.boolean)) ∈ lw_tbl := List.mem_of_getElem? (i := 2034) (by decide +kernel)
theorem wc_256 : Cond.code yJ9_abs_0f7a4 cJ9_abs_0f7a4 1 (some (Jvm.ClassFile.FieldType.int)) ∈ lw_tbl := List.mem_of_getElem? (i := 2037) (by decide +kernel)
theorem wc_257 : Cond.code yX12_many cX12_many 2 (some (Jvm.ClassFile.FieldType.int)) ∈ lw_tbl := List.mem_of_getElem? (i := 2041) (by decide +kernel)
theorem wc_258 : Cond.code yX12_read cX12_read 3 (some (Jvm.ClassFile.FieldType.int)) ∈ lw_tbl := List.mem_of_getElem? (i := 2045) (by decide +kernel)
theorem wc_259 : Cond.code yX12_readNext cX12_readNext 3 (some (Jvm.ClassFile.FieldType.int)) ∈ lw_tbl := List.mem_of_getElem? (i := 2049) (by decide +kernel)
theorem wc_260 : Cond.code yX12_slip cX12_slip 4 (some (Jvm.ClassFile.FieldType.int)) ∈ lw_tbl := List.mem_of_getElem? (i := 2053) (by decide +kernel)
theorem wc_261 : Cond.code yX12_follows cX12_follows 5 none ∈ lw_tbl := List.mem_of_getElem? (i := 2057) (by decide +kernel)
theorem wc_262 : Cond.code yX12_slips cX12_slips 6 (some (Jvm.ClassFile.FieldType.int)) ∈ lw_tbl := List.mem_of_getElem? (i := 2061) (by decide +kernel)
theorem wc_263 : Cond.code yX12_breaks cX12_breaks 3 (some (Jvm.ClassFile.FieldType.int)) ∈ lw_tbl := List.mem_of_getElem? (i := 2065) (by decide +kernel)
theorem wc_264 : Cond.code yX12_brief cX12_brief 6 (some (Jvm.ClassFile.FieldType.int)) ∈ lw_tbl := List.mem_of_getElem? (i := 2069) (by decide +kernel)
theorem wc_265 : Cond.code yX12_part cX12_part 3 (some (Jvm.ClassFile.FieldType.int)) ∈ lw_tbl := List.mem_of_getElem? (i := 2073) (by decide +kernel)
theorem wc_266 : Cond.code yX12_best cX12_best 3 (some (Jvm.ClassFile.FieldType.int)) ∈ lw_tbl := List.mem_of_getElem? (i := 2077) (by decide +kernel)
theorem wc_267 : Cond.code yX12_odds cX12_odds 12 (some (Jvm.ClassFile.FieldType.long)) ∈ lw_tbl := List.mem_of_getElem? (i := 2081) (by decide +kernel)
theorem wc_268 : Cond.code yX12_common cX12_common 10 (some (Jvm.ClassFile.FieldType.long)) ∈ lw_tbl := List.mem_of_getElem? (i := 2086) (by decide +kernel)
theorem wc_269 : Cond.code yX12_shared cX12_shared 10 (some (Jvm.ClassFile.FieldType.int)) ∈ lw_tbl := List.mem_of_getElem? (i := 2090) (by decide +kernel)
theorem wc_270 : Cond.code yX12_isSlip cX12_isSlip 1 (some (Jvm.ClassFile.FieldType.boolean)) ∈ lw_tbl := List.mem_of_getElem? (i := 2093) (by decide +kernel)
theorem wc_271 : Cond.code yX12_alike cX12_alike 9 (some (Jvm.ClassFile.FieldType.int)) ∈ lw_tbl := List.mem_of_getElem? (i := 2097) (by decide +kernel)
theorem wc_272 : Cond.code yX12_way cX12_way 6 (some (Jvm.ClassFile.FieldType.int)) ∈ lw_tbl := List.mem_of_getElem? (i := 2101) (by decide +kernel)
theorem wc_273 : Cond.code yX12_cheaper cX12_cheaper 4 (some (Jvm.ClassFile.FieldType.int)) ∈ lw_tbl := List.mem_of_getElem? (i := 2105) (by decide +kernel)
theorem wc_274 : Cond.code yX12_write cX12_write 14 (some (Jvm.ClassFile.FieldType.int)) ∈ lw_tbl := List.mem_of_getElem? (i := 2109) (by decide +kernel)
theorem wc_275 : Cond.code yX12_draw cX12_draw 1 (some (Jvm.ClassFile.FieldType.int)) ∈ lw_tbl := List.mem_of_getElem? (i := 2113) (by decide +kernel)
theorem wc_276 : Cond.code yX12_count cX12_count 4 (some (Jvm.ClassFile.FieldType.int)) ∈ lw_tbl := List.mem_of_getElem? (i := 2118) (by decide +kernel)
theorem wC_g0 : ∀ r ∈ pM_0, Cond.code r.1 r.2.1 r.2.2.1 r.2.2.2.1 ∈ lw_tbl := List.forall_mem_cons.mpr ⟨wc_0, List.forall_mem_cons.mpr ⟨wc_1, List.forall_mem_cons.mpr ⟨wc_2, List.forall_mem_cons.mpr ⟨wc_3, List.forall_mem_cons.mpr ⟨wc_4, List.forall_mem_cons.mpr ⟨wc_5, List.forall_mem_cons.mpr ⟨wc_6, List.forall_mem_cons.mpr ⟨wc_7, List.forall_mem_cons.mpr ⟨wc_8, List.forall_mem_cons.mpr ⟨wc_9, List.forall_mem_cons.mpr ⟨wc_10, List.forall_mem_cons.mpr ⟨wc_11, List.forall_mem_cons.mpr ⟨wc_12, List.forall_mem_cons.mpr ⟨wc_13, List.forall_mem_cons.mpr ⟨wc_14, List.forall_mem_cons.mpr ⟨wc_15, List.forall_mem_cons.mpr ⟨wc_16, List.forall_mem_cons.mpr ⟨wc_17, List.forall_mem_cons.mpr ⟨wc_18, List.forall_mem_cons.mpr ⟨wc_19, List.forall_mem_cons.mpr ⟨wc_20, List.forall_mem_cons.mpr ⟨wc_21, List.forall_mem_cons.mpr ⟨wc_22, List.forall_mem_cons.mpr ⟨wc_23, List.forall_mem_cons.mpr ⟨wc_24, List.forall_mem_cons.mpr ⟨wc_25, List.forall_mem_cons.mpr ⟨wc_26, List.forall_mem_cons.mpr ⟨wc_27, List.forall_mem_cons.mpr ⟨wc_28, List.forall_mem_cons.mpr ⟨wc_29, List.forall_mem_cons.mpr ⟨wc_30, List.forall_mem_cons.mpr ⟨wc_31, List.forall_mem_cons.mpr ⟨wc_32, List.forall_mem_cons.mpr ⟨wc_33, List.forall_mem_cons.mpr ⟨wc_34, List.forall_mem_cons.mpr ⟨wc_35, List.forall_mem_cons.mpr ⟨wc_36, List.forall_mem_cons.mpr ⟨wc_37, List.forall_mem_cons.mpr ⟨wc_38, List.forall_mem_cons.mpr ⟨wc_39, (fun _ h => absurd h List.not_mem_nil)⟩⟩⟩⟩⟩⟩⟩⟩⟩⟩⟩⟩⟩⟩⟩⟩⟩⟩⟩⟩⟩⟩⟩⟩⟩⟩⟩⟩⟩⟩⟩⟩⟩⟩⟩⟩⟩⟩⟩⟩
theorem wC_g1 : ∀ r ∈ pM_1, Cond.code r.1 r.2.1 r.2.2.1 r.2.2.2.1 ∈ lw_tbl := List.forall_mem_cons.mpr ⟨wc_40, List.forall_mem_cons.mpr ⟨wc_41, List.forall_mem_cons.mpr ⟨wc_42, List.forall_mem_cons.mpr ⟨wc_43, List.forall_mem_cons.mpr ⟨wc_44, List.forall_mem_cons.mpr ⟨wc_45, List.forall_mem_cons.mpr ⟨wc_46, List.forall_mem_cons.mpr ⟨wc_47, List.forall_mem_cons.mpr ⟨wc_48, List.forall_mem_cons.mpr ⟨wc_49, List.forall_mem_cons.mpr ⟨wc_50, List.forall_mem_cons.mpr ⟨wc_51, List.forall_mem_cons.mpr ⟨wc_52, List.forall_mem_cons.mpr ⟨wc_53, List.forall_mem_cons.mpr ⟨wc_54, List.forall_mem_cons.mpr ⟨wc_55, List.forall_mem_cons.mpr ⟨wc_56, List.forall_mem_cons.mpr ⟨wc_57, List.forall_mem_cons.mpr ⟨wc_58, List.forall_mem_cons.mpr ⟨wc_59, List.forall_mem_cons.mpr ⟨wc_60, List.forall_mem_cons.mpr ⟨wc_61, List.forall_mem_cons.mpr ⟨wc_62, List.forall_mem_cons.mpr ⟨wc_63, List.forall_mem_cons.mpr ⟨wc_64, List.forall_mem_cons.mpr ⟨wc_65, List.forall_mem_cons.mpr ⟨wc_66, List.forall_mem_cons.mpr ⟨wc_67, List.forall_mem_cons.mpr ⟨wc_68, List.forall_mem_cons.mpr ⟨wc_69, List.forall_mem_cons.mpr ⟨wc_70, List.forall_mem_cons.mpr ⟨wc_71, List.forall_mem_cons.mpr ⟨wc_72, List.forall_mem_cons.mpr ⟨wc_73, List.forall_mem_cons.mpr ⟨wc_74, List.forall_mem_cons.mpr ⟨wc_75, List.forall_mem_cons.mpr ⟨wc_76, List.forall_mem_cons.mpr ⟨wc_77, List.forall_mem_cons.mpr ⟨wc_78, List.forall_mem_cons.mpr ⟨wc_79, (fun _ h => absurd h List.not_mem_nil)⟩⟩⟩⟩⟩⟩⟩⟩⟩⟩⟩⟩⟩⟩⟩⟩⟩⟩⟩⟩⟩⟩⟩⟩⟩⟩⟩⟩⟩⟩⟩⟩⟩⟩⟩⟩⟩⟩⟩⟩
theorem wC_g2 : ∀ r ∈ pM_2, Cond.code r.1 r.2.1 r.2.2.1 r.2.2.2.1 ∈ lw_tbl := List.forall_mem_cons.mpr ⟨wc_80, List.forall_mem_cons.mpr ⟨wc_81, List.forall_mem_cons.mpr ⟨wc_82, List.forall_mem_cons.mpr ⟨wc_83, List.forall_mem_cons.mpr ⟨wc_84, List.forall_mem_cons.mpr ⟨wc_85, List.forall_mem_cons.mpr ⟨wc_86, List.forall_mem_cons.mpr ⟨wc_87, List.forall_mem_cons.mpr ⟨wc_88, List.forall_mem_cons.mpr ⟨wc_89, List.forall_mem_cons.mpr ⟨wc_90, List.forall_mem_cons.mpr ⟨wc_91, List.forall_mem_cons.mpr ⟨wc_92, List.forall_mem_cons.mpr ⟨wc_93, List.forall_mem_cons.mpr ⟨wc_94, List.forall_mem_cons.mpr ⟨wc_95, List.forall_mem_cons.mpr ⟨wc_96, List.forall_mem_cons.mpr ⟨wc_97, List.forall_mem_cons.mpr ⟨wc_98, List.forall_mem_cons.mpr ⟨wc_99, List.forall_mem_cons.mpr ⟨wc_100, List.forall_mem_cons.mpr ⟨wc_101, List.forall_mem_cons.mpr ⟨wc_102, List.forall_mem_cons.mpr ⟨wc_103, List.forall_mem_cons.mpr ⟨wc_104, List.forall_mem_cons.mpr ⟨wc_105, List.forall_mem_cons.mpr ⟨wc_106, List.forall_mem_cons.mpr ⟨wc_107, List.forall_mem_cons.mpr ⟨wc_108, List.forall_mem_cons.mpr ⟨wc_109, List.forall_mem_cons.mpr ⟨wc_110, List.forall_mem_cons.mpr ⟨wc_111, List.forall_mem_cons.mpr ⟨wc_112, List.forall_mem_cons.mpr ⟨wc_113, List.forall_mem_cons.mpr ⟨wc_114, List.forall_mem_cons.mpr ⟨wc_115, List.forall_mem_cons.mpr ⟨wc_116, List.forall_mem_cons.mpr ⟨wc_117, List.forall_mem_cons.mpr ⟨wc_118, List.forall_mem_cons.mpr ⟨wc_119, (fun _ h => absurd h List.not_mem_nil)⟩⟩⟩⟩⟩⟩⟩⟩⟩⟩⟩⟩⟩⟩⟩⟩⟩⟩⟩⟩⟩⟩⟩⟩⟩⟩⟩⟩⟩⟩⟩⟩⟩⟩⟩⟩⟩⟩⟩⟩
theorem wC_g3 : ∀ r ∈ pM_3, Cond.code r.1 r.2.1 r.2.2.1 r.2.2.2.1 ∈ lw_tbl := List.forall_mem_cons.mpr ⟨wc_120, List.forall_mem_cons.mpr ⟨wc_121, List.forall_mem_cons.mpr ⟨wc_122, List.forall_mem_cons.mpr ⟨wc_123, List.forall_mem_cons.mpr ⟨wc_124, List.forall_mem_cons.mpr ⟨wc_125, List.forall_mem_cons.mpr ⟨wc_126, List.forall_mem_cons.mpr ⟨wc_127, List.forall_mem_cons.mpr ⟨wc_128, List.forall_mem_cons.mpr ⟨wc_129, List.forall_mem_cons.mpr ⟨wc_130, List.forall_mem_cons.mpr ⟨wc_131, List.forall_mem_cons.mpr ⟨wc_132, List.forall_mem_cons.mpr ⟨wc_133, List.forall_mem_cons.mpr ⟨wc_134, List.forall_mem_cons.mpr ⟨wc_135, List.forall_mem_cons.mpr ⟨wc_136, List.forall_mem_cons.mpr ⟨wc_137, List.forall_mem_cons.mpr ⟨wc_138, List.forall_mem_cons.mpr ⟨wc_139, List.forall_mem_cons.mpr ⟨wc_140, List.forall_mem_cons.mpr ⟨wc_141, List.forall_mem_cons.mpr ⟨wc_142, List.forall_mem_cons.mpr ⟨wc_143, List.forall_mem_cons.mpr ⟨wc_144, List.forall_mem_cons.mpr ⟨wc_145, List.forall_mem_cons.mpr ⟨wc_146, List.forall_mem_cons.mpr ⟨wc_147, List.forall_mem_cons.mpr ⟨wc_148, List.forall_mem_cons.mpr ⟨wc_149, List.forall_mem_cons.mpr ⟨wc_150, List.forall_mem_cons.mpr ⟨wc_151, List.forall_mem_cons.mpr ⟨wc_152, List.forall_mem_cons.mpr ⟨wc_153, List.forall_mem_cons.mpr ⟨wc_154, List.forall_mem_cons.mpr ⟨wc_155, List.forall_mem_cons.mpr ⟨wc_156, List.forall_mem_cons.mpr ⟨wc_157, List.forall_mem_cons.mpr ⟨wc_158, List.forall_mem_cons.mpr ⟨wc_159, (fun _ h => absurd h List.not_mem_nil)⟩⟩⟩⟩⟩⟩⟩⟩⟩⟩⟩⟩⟩⟩⟩⟩⟩⟩⟩⟩⟩⟩⟩⟩⟩⟩⟩⟩⟩⟩⟩⟩⟩⟩⟩⟩⟩⟩⟩⟩
theorem wC_g4 : ∀ r ∈ pM_4, Cond.code r.1 r.2.1 r.2.2.1 r.2.2.2.1 ∈ lw_tbl := List.forall_mem_cons.mpr ⟨wc_160, List.forall_mem_cons.mpr ⟨wc_161, List.forall_mem_cons.mpr ⟨wc_162, List.forall_mem_cons.mpr ⟨wc_163, List.forall_mem_cons.mpr ⟨wc_164, List.forall_mem_cons.mpr ⟨wc_165, List.forall_mem_cons.mpr ⟨wc_166, List.forall_mem_cons.mpr ⟨wc_167, List.forall_mem_cons.mpr ⟨wc_168, List.forall_mem_cons.mpr ⟨wc_169, List.forall_mem_cons.mpr ⟨wc_170, List.forall_mem_cons.mpr ⟨wc_171, List.forall_mem_cons.mpr ⟨wc_172, List.forall_mem_cons.mpr ⟨wc_173, List.forall_mem_cons.mpr ⟨wc_174, List.forall_mem_cons.mpr ⟨wc_175, List.forall_mem_cons.mpr ⟨wc_176, List.forall_mem_cons.mpr ⟨wc_177, List.forall_mem_cons.mpr ⟨wc_178, List.forall_mem_cons.mpr ⟨wc_179, List.forall_mem_cons.mpr ⟨wc_180, List.forall_mem_cons.mpr ⟨wc_181, List.forall_mem_cons.mpr ⟨wc_182, List.forall_mem_cons.mpr ⟨wc_183, List.forall_mem_cons.mpr ⟨wc_184, List.forall_mem_cons.mpr ⟨wc_185, List.forall_mem_cons.mpr ⟨wc_186, List.forall_mem_cons.mpr ⟨wc_187, List.forall_mem_cons.mpr ⟨wc_188, List.forall_mem_cons.mpr ⟨wc_189, List.forall_mem_cons.mpr ⟨wc_190, List.forall_mem_cons.mpr ⟨wc_191, List.forall_mem_cons.mpr ⟨wc_192, List.forall_mem_cons.mpr ⟨wc_193, List.forall_mem_cons.mpr ⟨wc_194, List.forall_mem_cons.mpr ⟨wc_195, List.forall_mem_cons.mpr ⟨wc_196, List.forall_mem_cons.mpr ⟨wc_197, List.forall_mem_cons.mpr ⟨wc_198, List.forall_mem_cons.mpr ⟨wc_199, (fun _ h => absurd h List.not_mem_nil)⟩⟩⟩⟩⟩⟩⟩⟩⟩⟩⟩⟩⟩⟩⟩⟩⟩⟩⟩⟩⟩⟩⟩⟩⟩⟩⟩⟩⟩⟩⟩⟩⟩⟩⟩⟩⟩⟩⟩⟩
theorem wC_g5 : ∀ r ∈ pM_5, Cond.code r.1 r.2.1 r.2.2.1 r.2.2.2.1 ∈ lw_tbl := List.forall_mem_cons.mpr ⟨wc_200, List.forall_mem_cons.mpr ⟨wc_201, List.forall_mem_cons.mpr ⟨wc_202, List.forall_mem_cons.mpr ⟨wc_203, List.forall_mem_cons.mpr ⟨wc_204, List.forall_mem_cons.mpr ⟨wc_205, List.forall_mem_cons.mpr ⟨wc_206, List.forall_mem_cons.mpr ⟨wc_207, List.forall_mem_cons.mpr ⟨wc_208, List.forall_mem_cons.mpr ⟨wc_209, List.forall_mem_cons.mpr ⟨wc_210, List.forall_mem_cons.mpr ⟨wc_211, List.forall_mem_cons.mpr ⟨wc_212, List.forall_mem_cons.mpr ⟨wc_213, List.forall_mem_cons.mpr ⟨wc_214, List.forall_mem_cons.mpr ⟨wc_215, List.forall_mem_cons.mpr ⟨wc_216, List.forall_mem_cons.mpr ⟨wc_217, List.forall_mem_cons.mpr ⟨wc_218, List.forall_mem_cons.mpr ⟨wc_219, List.forall_mem_cons.mpr ⟨wc_220, List.forall_mem_cons.mpr ⟨wc_221, List.forall_mem_cons.mpr ⟨wc_222, List.forall_mem_cons.mpr ⟨wc_223, List.forall_mem_cons.mpr ⟨wc_224, List.forall_mem_cons.mpr ⟨wc_225, List.forall_mem_cons.mpr ⟨wc_226, List.forall_mem_cons.mpr ⟨wc_227, List.forall_mem_cons.mpr ⟨wc_228, List.forall_mem_cons.mpr ⟨wc_229, List.forall_mem_cons.mpr ⟨wc_230, List.forall_mem_cons.mpr ⟨wc_231, List.forall_mem_cons.mpr ⟨wc_232, List.forall_mem_cons.mpr ⟨wc_233, List.forall_mem_cons.mpr ⟨wc_234, List.forall_mem_cons.mpr ⟨wc_235, List.forall_mem_cons.mpr ⟨wc_236, List.forall_mem_cons.mpr ⟨wc_237, List.forall_mem_cons.mpr ⟨wc_238, List.forall_mem_cons.mpr ⟨wc_239, (fun _ h => absurd h List.not_mem_nil)⟩⟩⟩⟩⟩⟩⟩⟩⟩⟩⟩⟩⟩⟩⟩⟩⟩⟩⟩⟩⟩⟩⟩⟩⟩⟩⟩⟩⟩⟩⟩⟩⟩⟩⟩⟩⟩⟩⟩⟩
theorem wC_g6 : ∀ r ∈ (pM_6.take 37), Cond.code r.1 r.2.1 r.2.2.1 r.2.2.2.1 ∈ lw_tbl := List.forall_mem_cons.mpr ⟨wc_240, List.forall_mem_cons.mpr ⟨wc_241, List.forall_mem_cons.mpr ⟨wc_242, List.forall_mem_cons.mpr ⟨wc_243, List.forall_mem_cons.mpr ⟨wc_244, List.forall_mem_cons.mpr ⟨wc_245, List.forall_mem_cons.mpr ⟨wc_246, List.forall_mem_cons.mpr ⟨wc_247, List.forall_mem_cons.mpr ⟨wc_248, List.forall_mem_cons.mpr ⟨wc_249, List.forall_mem_cons.mpr ⟨wc_250, List.forall_mem_cons.mpr ⟨wc_251, List.forall_mem_cons.mpr ⟨wc_252, List.forall_mem_cons.mpr ⟨wc_253, List.forall_mem_cons.mpr ⟨wc_254, List.forall_mem_cons.mpr ⟨wc_255, List.forall_mem_cons.mpr ⟨wc_256, List.forall_mem_cons.mpr ⟨wc_257, List.forall_mem_cons.mpr ⟨wc_258, List.forall_mem_cons.mpr ⟨wc_259, List.forall_mem_cons.mpr ⟨wc_260, List.forall_mem_cons.mpr ⟨wc_261, List.forall_mem_cons.mpr ⟨wc_262, List.forall_mem_cons.mpr ⟨wc_263, List.forall_mem_cons.mpr ⟨wc_264, List.forall_mem_cons.mpr ⟨wc_265, List.forall_mem_cons.mpr ⟨wc_266, List.forall_mem_cons.mpr ⟨wc_267, List.forall_mem_cons.mpr ⟨wc_268, List.forall_mem_cons.mpr ⟨wc_269, List.forall_mem_cons.mpr ⟨wc_270, List.forall_mem_cons.mpr ⟨wc_271, List.forall_mem_cons.mpr ⟨wc_272, List.forall_mem_cons.mpr ⟨wc_273, List.forall_mem_cons.mpr ⟨wc_274, List.forall_mem_cons.mpr ⟨wc_275, List.forall_mem_cons.mpr ⟨wc_276, (fun _ h => absurd h List.not_mem_nil)⟩⟩⟩⟩⟩⟩⟩⟩⟩⟩⟩⟩⟩⟩⟩⟩⟩⟩⟩⟩⟩⟩⟩⟩⟩⟩⟩⟩⟩⟩⟩⟩⟩⟩⟩⟩⟩
def pMc : List pMrow := pM_0 ++ (pM_1 ++ (pM_2 ++ (pM_3 ++ (pM_4 ++ (pM_5 ++ ((pM_6.take 37)))))))
theorem wC_all : ∀ r ∈ pMc, Cond.code r.1 r.2.1 r.2.2.1 r.2.2.2.1 ∈ lw_tbl := List.forall_mem_append.mpr ⟨wC_g0, List.forall_mem_append.mpr ⟨wC_g1, List.forall_mem_append.mpr ⟨wC_g2, List.forall_mem_append.mpr ⟨wC_g3, List.forall_mem_append.mpr ⟨wC_g4, List.forall_mem_append.mpr ⟨wC_g5, wC_g6⟩⟩⟩⟩⟩⟩
theorem pM_split : pM = pMc ++ ((pM_6.drop 37) ++ pM_7) := by
  show _ = _
  unfold pM pMc
  simp only [List.append_assoc]
  rw [← List.append_assoc (pM_6.take 37), List.take_append_drop]
set_option maxRecDepth 100000 in
theorem po_0 : pk_0.all (pOKe RX11) = true := by decide +kernel
set_option maxRecDepth 100000 in
theorem po_1 : pk_1.all (pOKe RX8) = true := by decide +kernel
set_option maxRecDepth 100000 in
theorem po_2 : pk_2.all (pOKe RX2) = true := by decide +kernel
set_option maxRecDepth 100000 in
theorem po_3 : pk_3.all (pOKe RX1) = true := by decide +kernel
set_option maxRecDepth 100000 in
theorem po_4 : pk_4.all (pOKe RX0) = true := by decide +kernel
set_option maxRecDepth 100000 in
theorem po_5 : pk_5.all (pOKe RX7) = true := by decide +kernel
set_option maxRecDepth 100000 in
theorem po_6 : pk_6.all (pOKe RX5) = true := by decide +kernel
set_option maxRecDepth 100000 in
theorem po_7 : pk_7.all (pOKe RX3) = true := by decide +kernel
set_option maxRecDepth 100000 in
theorem po_8 : pk_8.all (pOKe RX6) = true := by decide +kernel
set_option maxRecDepth 100000 in
theorem po_9 : pk_9.all (pOKe RX4) = true := by decide +kernel
set_option maxRecDepth 100000 in
theorem po_10 : pk_10.all (pOKe RX9) = true := by decide +kernel
set_option maxRecDepth 100000 in
theorem po_11 : pk_11.all (pOKe RX11) = true := by decide +kernel
set_option maxRecDepth 100000 in
theorem po_12 : pk_12.all (pOKe RX8) = true := by decide +kernel
set_option maxRecDepth 100000 in
theorem po_13 : pk_13.all (pOKe RX8) = true := by decide +kernel
set_option maxRecDepth 100000 in
theorem po_14 : pk_14.all (pOKe RX11) = true := by decide +kernel
set_option maxRecDepth 100000 in
theorem po_15 : pk_15.all (pOKe RX11) = true := by decide +kernel
set_option maxRecDepth 100000 in
theorem po_16 : pk_16.all (pOKe RX11) = true := by decide +kernel
set_option maxRecDepth 100000 in
theorem po_17 : pk_17.all (pOKe RX11) = true := by decide +kernel
set_option maxRecDepth 100000 in
theorem po_18 : pk_18.all (pOKe RX11) = true := by decide +kernel
set_option maxRecDepth 100000 in
theorem po_19 : pk_19.all (pOKe RX5) = true := by decide +kernel
set_option maxRecDepth 100000 in
theorem po_20 : pk_20.all (pOKe RX11) = true := by decide +kernel
set_option maxRecDepth 100000 in
theorem po_21 : pk_21.all (pOKe RJ9) = true := by decide +kernel
set_option maxRecDepth 100000 in
theorem po_22 : pk_22.all (pOKe RX7) = true := by decide +kernel
set_option maxRecDepth 100000 in
theorem po_23 : pk_23.all (pOKe RX7) = true := by decide +kernel
set_option maxRecDepth 100000 in
theorem po_24 : pk_24.all (pOKe RX0) = true := by decide +kernel
set_option maxRecDepth 100000 in
theorem po_25 : pk_25.all (pOKe RX4) = true := by decide +kernel
set_option maxRecDepth 100000 in
theorem po_26 : pk_26.all (pOKe RX4) = true := by decide +kernel
set_option maxRecDepth 100000 in
theorem po_27 : pk_27.all (pOKe RX4) = true := by decide +kernel
set_option maxRecDepth 100000 in
theorem po_28 : pk_28.all (pOKe RX11) = true := by decide +kernel
set_option maxRecDepth 100000 in
theorem po_29 : pk_29.all (pOKe RX7) = true := by decide +kernel
set_option maxRecDepth 100000 in
theorem po_30 : pk_30.all (pOKe RJ9) = true := by decide +kernel
set_option maxRecDepth 100000 in
theorem po_31 : pk_31.all (pOKe RX7) = true := by decide +kernel
set_option maxRecDepth 100000 in
theorem po_32 : pk_32.all (pOKe RX5) = true := by decide +kernel
set_option maxRecDepth 100000 in
theorem po_33 : pk_33.all (pOKe RX7) = true := by decide +kernel
set_option maxRecDepth 100000 in
theorem po_34 : pk_34.all (pOKe RX4) = true := by decide +kernel
set_option maxRecDepth 100000 in
theorem po_35 : pk_35.all (pOKe RX1) = true := by decide +kernel
set_option maxRecDepth 100000 in
theorem po_36 : pk_36.all (pOKe RX4) = true := by decide +kernel
set_option maxRecDepth 100000 in
theorem po_37 : pk_37.all (pOKe RX5) = true := by decide +kernel
set_option maxRecDepth 100000 in
theorem po_38 : pk_38.all (pOKe RX3) = true := by decide +kernel
set_option maxRecDepth 100000 in
theorem po_39 : pk_39.all (pOKe RX3) = true := by decide +kernel
set_option maxRecDepth 100000 in
theorem po_40 : pk_40.all (pOKe RX5) = true := by decide +kernel
set_option maxRecDepth 100000 in
theorem po_41 : pk_41.all (pOKe RX4) = true := by decide +kernel
set_option maxRecDepth 100000 in
theorem po_42 : pk_42.all (pOKe RX4) = true := by decide +kernel
set_option maxRecDepth 100000 in
theorem po_43 : pk_43.all (pOKe RX1) = true := by decide +kernel
set_option maxRecDepth 100000 in
theorem po_44 : pk_44.all (pOKe RX11) = true := by decide +kernel
set_option maxRecDepth 100000 in
theorem po_45 : pk_45.all (pOKe RX4) = true := by decide +kernel
set_option maxRecDepth 100000 in
theorem po_46 : pk_46.all (pOKe RX4) = true := by decide +kernel
set_option maxRecDepth 100000 in
theorem po_47 : pk_47.all (pOKe RX0) = true := by decide +kernel
set_option maxRecDepth 100000 in
theorem po_48 : pk_48.all (pOKe RX11) = true := by decide +kernel
set_option maxRecDepth 100000 in
theorem po_49 : pk_49.all (pOKe RX11) = true := by decide +kernel
set_option maxRecDepth 100000 in
theorem po_50 : pk_50.all (pOKe RX1) = true := by decide +kernel
set_option maxRecDepth 100000 in
theorem po_51 : pk_51.all (pOKe RX0) = true := by decide +kernel
set_option maxRecDepth 100000 in
theorem po_52 : pk_52.all (pOKe RX0) = true := by decide +kernel
set_option maxRecDepth 100000 in
theorem po_53 : pk_53.all (pOKe RX4) = true := by decide +kernel
set_option maxRecDepth 100000 in
theorem po_54 : pk_54.all (pOKe RX4) = true := by decide +kernel
set_option maxRecDepth 100000 in
theorem po_55 : pk_55.all (pOKe RX4) = true := by decide +kernel
set_option maxRecDepth 100000 in
theorem po_56 : pk_56.all (pOKe RX1) = true := by decide +kernel
set_option maxRecDepth 100000 in
theorem po_57 : pk_57.all (pOKe RX1) = true := by decide +kernel
set_option maxRecDepth 100000 in
theorem po_58 : pk_58.all (pOKe RX0) = true := by decide +kernel
set_option maxRecDepth 100000 in
theorem po_59 : pk_59.all (pOKe RX6) = true := by decide +kernel
set_option maxRecDepth 100000 in
theorem po_60 : pk_60.all (pOKe RX1) = true := by decide +kernel
set_option maxRecDepth 100000 in
theorem po_61 : pk_61.all (pOKe RX0) = true := by decide +kernel
set_option maxRecDepth 100000 in
theorem po_62 : pk_62.all (pOKe RX6) = true := by decide +kernel
set_option maxRecDepth 100000 in
theorem po_63 : pk_63.all (pOKe RX6) = true := by decide +kernel
set_option maxRecDepth 100000 in
theorem po_64 : pk_64.all (pOKe RX6) = true := by decide +kernel
set_option maxRecDepth 100000 in
theorem po_65 : pk_65.all (pOKe RX6) = true := by decide +kernel
set_option maxRecDepth 100000 in
theorem po_66 : pk_66.all (pOKe RX0) = true := by decide +kernel
set_option maxRecDepth 100000 in
theorem po_67 : pk_67.all (pOKe RX11) = true := by decide +kernel
set_option maxRecDepth 100000 in
theorem po_68 : pk_68.all (pOKe RX11) = true := by decide +kernel
set_option maxRecDepth 100000 in
theorem po_69 : pk_69.all (pOKe RX3) = true := by decide +kernel
set_option maxRecDepth 100000 in
theorem po_70 : pk_70.all (pOKe RX11) = true := by decide +kernel
set_option maxRecDepth 100000 in
theorem po_71 : pk_71.all (pOKe RX1) = true := by decide +kernel
set_option maxRecDepth 100000 in
theorem po_72 : pk_72.all (pOKe RX11) = true := by decide +kernel
set_option maxRecDepth 100000 in
theorem po_73 : pk_73.all (pOKe RX11) = true := by decide +kernel
set_option maxRecDepth 100000 in
theorem po_74 : pk_74.all (pOKe RX11) = true := by decide +kernel
set_option maxRecDepth 100000 in
theorem po_75 : pk_75.all (pOKe RX1) = true := by decide +kernel
set_option maxRecDepth 100000 in
theorem po_76 : pk_76.all (pOKe RX1) = true := by decide +kernel
set_option maxRecDepth 100000 in
theorem po_77 : pk_77.all (pOKe RX1) = true := by decide +kernel
set_option maxRecDepth 100000 in
theorem po_78 : pk_78.all (pOKe RX11) = true := by decide +kernel
set_option maxRecDepth 100000 in
theorem po_79 : pk_79.all (pOKe RX2) = true := by decide +kernel
set_option maxRecDepth 100000 in
theorem po_80 : pk_80.all (pOKe RX2) = true := by decide +kernel
set_option maxRecDepth 100000 in
theorem po_81 : pk_81.all (pOKe RX2) = true := by decide +kernel
set_option maxRecDepth 100000 in
theorem po_82 : pk_82.all (pOKe RX2) = true := by decide +kernel
set_option maxRecDepth 100000 in
theorem po_83 : pk_83.all (pOKe RX2) = true := by decide +kernel
set_option maxRecDepth 100000 in
theorem po_84 : pk_84.all (pOKe RX2) = true := by decide +kernel
set_option maxRecDepth 100000 in
theorem po_85 : pk_85.all (pOKe RX2) = true := by decide +kernel
set_option maxRecDepth 100000 in
theorem po_86 : pk_86.all (pOKe RX2) = true := by decide +kernel
set_option maxRecDepth 100000 in
theorem po_87 : pk_87.all (pOKe RX2) = true := by decide +kernel
set_option maxRecDepth 100000 in
theorem po_88 : pk_88.all (pOKe RX2) = true := by decide +kernel
set_option maxRecDepth 100000 in
theorem po_89 : pk_89.all (pOKe RX2) = true := by decide +kernel
set_option maxRecDepth 100000 in
theorem po_90 : pk_90.all (pOKe RX2) = true := by decide +kernel
set_option maxRecDepth 100000 in
theorem po_91 : pk_91.all (pOKe RX2) = true := by decide +kernel
set_option maxRecDepth 100000 in
theorem po_92 : pk_92.all (pOKe RX2) = true := by decide +kernel
set_option maxRecDepth 100000 in
theorem po_93 : pk_93.all (pOKe RX2) = true := by decide +kernel
set_option maxRecDepth 100000 in
theorem po_94 : pk_94.all (pOKe RX2) = true := by decide +kernel
set_option maxRecDepth 100000 in
theorem po_95 : pk_95.all (pOKe RX2) = true := by decide +kernel
set_option maxRecDepth 100000 in
theorem po_96 : pk_96.all (pOKe RX2) = true := by decide +kernel
set_option maxRecDepth 100000 in
theorem po_97 : pk_97.all (pOKe RX11) = true := by decide +kernel
set_option maxRecDepth 100000 in
theorem po_98 : pk_98.all (pOKe RX1) = true := by decide +kernel
set_option maxRecDepth 100000 in
theorem po_99 : pk_99.all (pOKe RX11) = true := by decide +kernel
set_option maxRecDepth 100000 in
theorem po_100 : pk_100.all (pOKe RX1) = true := by decide +kernel
set_option maxRecDepth 100000 in
theorem po_101 : pk_101.all (pOKe RX11) = true := by decide +kernel
set_option maxRecDepth 100000 in
theorem po_102 : pk_102.all (pOKe RX11) = true := by decide +kernel
set_option maxRecDepth 100000 in
theorem po_103 : pk_103.all (pOKe RX11) = true := by decide +kernel
set_option maxRecDepth 100000 in
theorem po_104 : pk_104.all (pOKe RX11) = true := by decide +kernel
set_option maxRecDepth 100000 in
theorem po_105 : pk_105.all (pOKe RX11) = true := by decide +kernel
set_option maxRecDepth 100000 in
theorem po_106 : pk_106.all (pOKe RX11) = true := by decide +kernel
set_option maxRecDepth 100000 in
theorem po_107 : pk_107.all (pOKe RX11) = true := by decide +kernel
set_option maxRecDepth 100000 in
theorem po_108 : pk_108.all (pOKe RX0) = true := by decide +kernel
set_option maxRecDepth 100000 in
theorem po_109 : pk_109.all (pOKe RJ13) = true := by decide +kernel
set_option maxRecDepth 100000 in
theorem po_110 : pk_110.all (pOKe RX0) = true := by decide +kernel
set_option maxRecDepth 100000 in
theorem po_111 : pk_111.all (pOKe RX0) = true := by decide +kernel
set_option maxRecDepth 100000 in
theorem po_112 : pk_112.all (pOKe RX11) = true := by decide +kernel
set_option maxRecDepth 100000 in
theorem po_113 : pk_113.all (pOKe RX11) = true := by decide +kernel
set_option maxRecDepth 100000 in
theorem po_114 : pk_114.all (pOKe RX1) = true := by decide +kernel
set_option maxRecDepth 100000 in
theorem po_115 : pk_115.all (pOKe RX11) = true := by decide +kernel
set_option maxRecDepth 100000 in
theorem po_116 : pk_116.all (pOKe RX11) = true := by decide +kernel
set_option maxRecDepth 100000 in
theorem po_117 : pk_117.all (pOKe RX11) = true := by decide +kernel
set_option maxRecDepth 100000 in
theorem po_118 : pk_118.all (pOKe RX1) = true := by decide +kernel
set_option maxRecDepth 100000 in
theorem po_119 : pk_119.all (pOKe RX1) = true := by decide +kernel
set_option maxRecDepth 100000 in
theorem po_120 : pk_120.all (pOKe RX11) = true := by decide +kernel
set_option maxRecDepth 100000 in
theorem po_121 : pk_121.all (pOKe RX11) = true := by decide +kernel
set_option maxRecDepth 100000 in
theorem po_122 : pk_122.all (pOKe RX11) = true := by decide +kernel
set_option maxRecDepth 100000 in
theorem po_123 : pk_123.all (pOKe RX11) = true := by decide +kernel
set_option maxRecDepth 100000 in
theorem po_124 : pk_124.all (pOKe RX10) = true := by decide +kernel
set_option maxRecDepth 100000 in
theorem po_125 : pk_125.all (pOKe RX10) = true := by decide +kernel
set_option maxRecDepth 100000 in
theorem po_126 : pk_126.all (pOKe RX10) = true := by decide +kernel
set_option maxRecDepth 100000 in
theorem po_127 : pk_127.all (pOKe RX10) = true := by decide +kernel
set_option maxRecDepth 100000 in
theorem po_128 : pk_128.all (pOKe RX10) = true := by decide +kernel
set_option maxRecDepth 100000 in
theorem po_129 : pk_129.all (pOKe RX10) = true := by decide +kernel
set_option maxRecDepth 100000 in
theorem po_130 : pk_130.all (pOKe RX11) = true := by decide +kernel
set_option maxRecDepth 100000 in
theorem po_131 : pk_131.all (pOKe RX11) = true := by decide +kernel
set_option maxRecDepth 100000 in
theorem po_132 : pk_132.all (pOKe RX11) = true := by decide +kernel
set_option maxRecDepth 100000 in
theorem po_133 : pk_133.all (pOKe RX11) = true := by decide +kernel
set_option maxRecDepth 100000 in
theorem po_134 : pk_134.all (pOKe RX1) = true := by decide +kernel
set_option maxRecDepth 100000 in
theorem po_135 : pk_135.all (pOKe RX11) = true := by decide +kernel
set_option maxRecDepth 100000 in
theorem po_136 : pk_136.all (pOKe RX11) = true := by decide +kernel
set_option maxRecDepth 100000 in
theorem po_137 : pk_137.all (pOKe RX11) = true := by decide +kernel
set_option maxRecDepth 100000 in
theorem po_138 : pk_138.all (pOKe RX9) = true := by decide +kernel
set_option maxRecDepth 100000 in
theorem po_139 : pk_139.all (pOKe RJ7) = true := by decide +kernel
set_option maxRecDepth 100000 in
theorem po_140 : pk_140.all (pOKe RX9) = true := by decide +kernel
set_option maxRecDepth 100000 in
theorem po_141 : pk_141.all (pOKe RX9) = true := by decide +kernel
set_option maxRecDepth 100000 in
theorem po_142 : pk_142.all (pOKe RX9) = true := by decide +kernel
set_option maxRecDepth 100000 in
theorem po_143 : pk_143.all (pOKe RX11) = true := by decide +kernel
set_option maxRecDepth 100000 in
theorem po_144 : pk_144.all (pOKe RX9) = true := by decide +kernel
set_option maxRecDepth 100000 in
theorem po_145 : pk_145.all (pOKe RX9) = true := by decide +kernel
set_option maxRecDepth 100000 in
theorem po_146 : pk_146.all (pOKe RX9) = true := by decide +kernel
set_option maxRecDepth 100000 in
theorem po_147 : pk_147.all (pOKe RX11) = true := by decide +kernel
set_option maxRecDepth 100000 in
theorem po_148 : pk_148.all (pOKe RX5) = true := by decide +kernel
set_option maxRecDepth 100000 in
theorem po_149 : pk_149.all (pOKe RX5) = true := by decide +kernel
set_option maxRecDepth 100000 in
theorem po_150 : pk_150.all (pOKe RX7) = true := by decide +kernel
set_option maxRecDepth 100000 in
theorem po_151 : pk_151.all (pOKe RX11) = true := by decide +kernel
set_option maxRecDepth 100000 in
theorem po_152 : pk_152.all (pOKe RX0) = true := by decide +kernel
set_option maxRecDepth 100000 in
theorem po_153 : pk_153.all (pOKe RX11) = true := by decide +kernel
set_option maxRecDepth 100000 in
theorem po_154 : pk_154.all (pOKe RX7) = true := by decide +kernel
set_option maxRecDepth 100000 in
theorem po_155 : pk_155.all (pOKe RX11) = true := by decide +kernel
set_option maxRecDepth 100000 in
theorem po_156 : pk_156.all (pOKe RX7) = true := by decide +kernel
set_option maxRecDepth 100000 in
theorem po_157 : pk_157.all (pOKe RX11) = true := by decide +kernel
set_option maxRecDepth 100000 in
theorem po_158 : pk_158.all (pOKe RX11) = true := by decide +kernel
set_option maxRecDepth 100000 in
theorem po_159 : pk_159.all (pOKe RX9) = true := by decide +kernel
set_option maxRecDepth 100000 in
theorem po_160 : pk_160.all (pOKe RX9) = true := by decide +kernel
set_option maxRecDepth 100000 in
theorem po_161 : pk_161.all (pOKe RX9) = true := by decide +kernel
set_option maxRecDepth 100000 in
theorem po_162 : pk_162.all (pOKe RX11) = true := by decide +kernel
set_option maxRecDepth 100000 in
theorem po_163 : pk_163.all (pOKe RX1) = true := by decide +kernel
set_option maxRecDepth 100000 in
theorem po_164 : pk_164.all (pOKe RX11) = true := by decide +kernel
set_option maxRecDepth 100000 in
theorem po_165 : pk_165.all (pOKe RX11) = true := by decide +kernel
set_option maxRecDepth 100000 in
theorem po_166 : pk_166.all (pOKe RX11) = true := by decide +kernel
set_option maxRecDepth 100000 in
theorem po_167 : pk_167.all (pOKe RX12) = true := by decide +kernel
set_option maxRecDepth 100000 in
theorem po_168 : pk_168.all (pOKe RX12) = true := by decide +kernel
set_option maxRecDepth 100000 in
theorem po_169 : pk_169.all (pOKe RX12) = true := by decide +kernel
set_option maxRecDepth 100000 in
theorem po_170 : pk_170.all (pOKe RX12) = true := by decide +kernel
set_option maxRecDepth 100000 in
theorem po_171 : pk_171.all (pOKe RX12) = true := by decide +kernel
set_option maxRecDepth 100000 in
theorem po_172 : pk_172.all (pOKe RX12) = true := by decide +kernel
set_option maxRecDepth 100000 in
theorem po_173 : pk_173.all (pOKe RX12) = true := by decide +kernel
set_option maxRecDepth 100000 in
theorem po_174 : pk_174.all (pOKe RX12) = true := by decide +kernel
set_option maxRecDepth 100000 in
theorem po_175 : pk_175.all (pOKe RX12) = true := by decide +kernel
set_option maxRecDepth 100000 in
theorem po_176 : pk_176.all (pOKe RX12) = true := by decide +kernel
set_option maxRecDepth 100000 in
theorem po_177 : pk_177.all (pOKe RX12) = true := by decide +kernel
set_option maxRecDepth 100000 in
theorem po_178 : pk_178.all (pOKe RX12) = true := by decide +kernel
set_option maxRecDepth 100000 in
theorem po_179 : pk_179.all (pOKe RX12) = true := by decide +kernel
set_option maxRecDepth 100000 in
theorem po_180 : pk_180.all (pOKe RX12) = true := by decide +kernel
set_option maxRecDepth 100000 in
theorem po_181 : pk_181.all (pOKe RX12) = true := by decide +kernel
set_option maxRecDepth 100000 in
theorem po_182 : pk_182.all (pOKe RX12) = true := by decide +kernel
set_option maxRecDepth 100000 in
theorem po_183 : pk_183.all (pOKe RX12) = true := by decide +kernel
set_option maxRecDepth 100000 in
theorem po_184 : pk_184.all (pOKe RX12) = true := by decide +kernel
set_option maxRecDepth 100000 in
theorem po_185 : pk_185.all (pOKe RX12) = true := by decide +kernel
set_option maxRecDepth 100000 in
theorem po_186 : pk_186.all (pOKe RX12) = true := by decide +kernel
set_option maxRecDepth 100000 in
theorem po_187 : pk_187.all (pOKe RX12) = true := by decide +kernel
set_option maxRecDepth 100000 in
theorem po_188 : pk_188.all (pOKe RX12) = true := by decide +kernel
set_option maxRecDepth 100000 in
theorem po_189 : pk_189.all (pOKe RX12) = true := by decide +kernel
set_option maxRecDepth 100000 in
theorem po_190 : pk_190.all (pOKe RX12) = true := by decide +kernel
set_option maxRecDepth 100000 in
theorem po_191 : pk_191.all (pOKe RX12) = true := by decide +kernel
set_option maxRecDepth 100000 in
theorem po_192 : pk_192.all (pOKe RX12) = true := by decide +kernel
set_option maxRecDepth 100000 in
theorem po_193 : pk_193.all (pOKe RX12) = true := by decide +kernel
set_option maxRecDepth 100000 in
theorem po_194 : pk_194.all (pOKe RX12) = true := by decide +kernel
set_option maxRecDepth 100000 in
theorem po_195 : pk_195.all (pOKe RX12) = true := by decide +kernel
set_option maxRecDepth 100000 in
theorem po_196 : pk_196.all (pOKe RX12) = true := by decide +kernel
set_option maxRecDepth 100000 in
theorem po_197 : pk_197.all (pOKe RX12) = true := by decide +kernel
set_option maxRecDepth 100000 in
theorem po_198 : pk_198.all (pOKe RX12) = true := by decide +kernel
set_option maxRecDepth 100000 in
theorem po_199 : pk_199.all (pOKe RX12) = true := by decide +kernel
set_option maxRecDepth 100000 in
theorem po_200 : pk_200.all (pOKe RX12) = true := by decide +kernel
set_option maxRecDepth 100000 in
theorem po_201 : pk_201.all (pOKe RX12) = true := by decide +kernel
set_option maxRecDepth 100000 in
theorem po_202 : pk_202.all (pOKe RX12) = true := by decide +kernel
set_option maxRecDepth 100000 in
theorem po_203 : pk_203.all (pOKe RX12) = true := by decide +kernel
set_option maxRecDepth 100000 in
theorem po_204 : pk_204.all (pOKe RX12) = true := by decide +kernel
set_option maxRecDepth 100000 in
theorem po_205 : pk_205.all (pOKe RX12) = true := by decide +kernel
set_option maxRecDepth 100000 in
theorem po_206 : pk_206.all (pOKe RX12) = true := by decide +kernel
set_option maxRecDepth 100000 in
theorem po_207 : pk_207.all (pOKe RX12) = true := by decide +kernel
set_option maxRecDepth 100000 in
theorem po_208 : pk_208.all (pOKe RX12) = true := by decide +kernel
set_option maxRecDepth 100000 in
theorem po_209 : pk_209.all (pOKe RX12) = true := by decide +kernel
set_option maxRecDepth 100000 in
theorem po_210 : pk_210.all (pOKe RX12) = true := by decide +kernel
set_option maxRecDepth 100000 in
theorem po_211 : pk_211.all (pOKe RX12) = true := by decide +kernel
set_option maxRecDepth 100000 in
theorem po_212 : pk_212.all (pOKe RX12) = true := by decide +kernel
set_option maxRecDepth 100000 in
theorem po_213 : pk_213.all (pOKe RX12) = true := by decide +kernel
set_option maxRecDepth 100000 in
theorem po_214 : pk_214.all (pOKe RX12) = true := by decide +kernel
set_option maxRecDepth 100000 in
theorem po_215 : pk_215.all (pOKe RX12) = true := by decide +kernel
set_option maxRecDepth 100000 in
theorem po_216 : pk_216.all (pOKe RX12) = true := by decide +kernel
set_option maxRecDepth 100000 in
theorem po_217 : pk_217.all (pOKe RX12) = true := by decide +kernel
set_option maxRecDepth 100000 in
theorem po_218 : pk_218.all (pOKe RX12) = true := by decide +kernel
set_option maxRecDepth 100000 in
theorem po_219 : pk_219.all (pOKe RX12) = true := by decide +kernel
set_option maxRecDepth 100000 in
theorem po_220 : pk_220.all (pOKe RX12) = true := by decide +kernel
set_option maxRecDepth 100000 in
theorem po_221 : pk_221.all (pOKe RX12) = true := by decide +kernel
set_option maxRecDepth 100000 in
theorem po_222 : pk_222.all (pOKe RX12) = true := by decide +kernel
set_option maxRecDepth 100000 in
theorem po_223 : pk_223.all (pOKe RX12) = true := by decide +kernel
set_option maxRecDepth 100000 in
theorem po_224 : pk_224.all (pOKe RX12) = true := by decide +kernel
set_option maxRecDepth 100000 in
theorem po_225 : pk_225.all (pOKe RX12) = true := by decide +kernel
set_option maxRecDepth 100000 in
theorem po_226 : pk_226.all (pOKe RX12) = true := by decide +kernel
set_option maxRecDepth 100000 in
theorem po_227 : pk_227.all (pOKe RX12) = true := by decide +kernel
set_option maxRecDepth 100000 in
theorem po_228 : pk_228.all (pOKe RX12) = true := by decide +kernel
set_option maxRecDepth 100000 in
theorem po_229 : pk_229.all (pOKe RX12) = true := by decide +kernel
set_option maxRecDepth 100000 in
theorem po_230 : pk_230.all (pOKe RX12) = true := by decide +kernel
set_option maxRecDepth 100000 in
theorem po_231 : pk_231.all (pOKe RX12) = true := by decide +kernel
set_option maxRecDepth 100000 in
theorem po_232 : pk_232.all (pOKe RX12) = true := by decide +kernel
set_option maxRecDepth 100000 in
theorem po_233 : pk_233.all (pOKe RX12) = true := by decide +kernel
set_option maxRecDepth 100000 in
theorem po_234 : pk_234.all (pOKe RX12) = true := by decide +kernel
set_option maxRecDepth 100000 in
theorem po_235 : pk_235.all (pOKe RX12) = true := by decide +kernel
set_option maxRecDepth 100000 in
theorem po_236 : pk_236.all (pOKe RX12) = true := by decide +kernel
set_option maxRecDepth 100000 in
theorem po_237 : pk_237.all (pOKe RX12) = true := by decide +kernel
set_option maxRecDepth 100000 in
theorem po_238 : pk_238.all (pOKe RX12) = true := by decide +kernel
set_option maxRecDepth 100000 in
theorem po_239 : pk_239.all (pOKe RX12) = true := by decide +kernel
set_option maxRecDepth 100000 in
theorem po_240 : pk_240.all (pOKe RX12) = true := by decide +kernel
set_option maxRecDepth 100000 in
theorem po_241 : pk_241.all (pOKe RX12) = true := by decide +kernel
set_option maxRecDepth 100000 in
theorem po_242 : pk_242.all (pOKe RX12) = true := by decide +kernel
set_option maxRecDepth 100000 in
theorem po_243 : pk_243.all (pOKe RX12) = true := by decide +kernel
set_option maxRecDepth 100000 in
theorem po_244 : pk_244.all (pOKe RX12) = true := by decide +kernel
set_option maxRecDepth 100000 in
theorem po_245 : pk_245.all (pOKe RX12) = true := by decide +kernel
set_option maxRecDepth 100000 in
theorem po_246 : pk_246.all (pOKe RX12) = true := by decide +kernel
set_option maxRecDepth 100000 in
theorem po_247 : pk_247.all (pOKe RX12) = true := by decide +kernel
set_option maxRecDepth 100000 in
theorem po_248 : pk_248.all (pOKe RX12) = true := by decide +kernel
set_option maxRecDepth 100000 in
theorem po_249 : pk_249.all (pOKe RX12) = true := by decide +kernel
set_option maxRecDepth 100000 in
theorem po_250 : pk_250.all (pOKe RX12) = true := by decide +kernel
set_option maxRecDepth 100000 in
theorem po_251 : pk_251.all (pOKe RX12) = true := by decide +kernel
set_option maxRecDepth 100000 in
theorem po_252 : pk_252.all (pOKe RX12) = true := by decide +kernel
set_option maxRecDepth 100000 in
theorem po_253 : pk_253.all (pOKe RX12) = true := by decide +kernel
set_option maxRecDepth 100000 in
theorem po_254 : pk_254.all (pOKe RX12) = true := by decide +kernel
set_option maxRecDepth 100000 in
theorem po_255 : pk_255.all (pOKe RX12) = true := by decide +kernel
set_option maxRecDepth 100000 in
theorem po_256 : pk_256.all (pOKe RJ9) = true := by decide +kernel
set_option maxRecDepth 100000 in
theorem po_257 : pk_257.all (pOKe RX12) = true := by decide +kernel
set_option maxRecDepth 100000 in
theorem po_258 : pk_258.all (pOKe RX12) = true := by decide +kernel
set_option maxRecDepth 100000 in
theorem po_259 : pk_259.all (pOKe RX12) = true := by decide +kernel
set_option maxRecDepth 100000 in
theorem po_260 : pk_260.all (pOKe RX12) = true := by decide +kernel
set_option maxRecDepth 100000 in
theorem po_261 : pk_261.all (pOKe RX12) = true := by decide +kernel
set_option maxRecDepth 100000 in
theorem po_262 : pk_262.all (pOKe RX12) = true := by decide +kernel
set_option maxRecDepth 100000 in
theorem po_263 : pk_263.all (pOKe RX12) = true := by decide +kernel
set_option maxRecDepth 100000 in
theorem po_264 : pk_264.all (pOKe RX12) = true := by decide +kernel
set_option maxRecDepth 100000 in
theorem po_265 : pk_265.all (pOKe RX12) = true := by decide +kernel
set_option maxRecDepth 100000 in
theorem po_266 : pk_266.all (pOKe RX12) = true := by decide +kernel
set_option maxRecDepth 100000 in
theorem po_267 : pk_267.all (pOKe RX12) = true := by decide +kernel
set_option maxRecDepth 100000 in
theorem po_268 : pk_268.all (pOKe RX12) = true := by decide +kernel
set_option maxRecDepth 100000 in
theorem po_269 : pk_269.all (pOKe RX12) = true := by decide +kernel
set_option maxRecDepth 100000 in
theorem po_270 : pk_270.all (pOKe RX12) = true := by decide +kernel
set_option maxRecDepth 100000 in
theorem po_271 : pk_271.all (pOKe RX12) = true := by decide +kernel
set_option maxRecDepth 100000 in
theorem po_272 : pk_272.all (pOKe RX12) = true := by decide +kernel
set_option maxRecDepth 100000 in
theorem po_273 : pk_273.all (pOKe RX12) = true := by decide +kernel
set_option maxRecDepth 100000 in
theorem po_274 : pk_274.all (pOKe RX12) = true := by decide +kernel
set_option maxRecDepth 100000 in
theorem po_275 : pk_275.all (pOKe RX12) = true := by decide +kernel
set_option maxRecDepth 100000 in
theorem po_276 : pk_276.all (pOKe RX12) = true := by decide +kernel
set_option maxRecDepth 100000 in
theorem po_277 : pk_277.all (pOKe RL) = true := by decide +kernel
set_option maxRecDepth 100000 in
theorem po_278 : pk_278.all (pOKe RL) = true := by decide +kernel
set_option maxRecDepth 100000 in
theorem po_279 : pk_279.all (pOKe RL) = true := by decide +kernel
set_option maxRecDepth 100000 in
theorem po_280 : pk_280.all (pOKe RL) = true := by decide +kernel
set_option maxRecDepth 100000 in
theorem po_281 : pk_281.all (pOKe RL) = true := by decide +kernel
set_option maxRecDepth 100000 in
theorem po_282 : pk_282.all (pOKe RL) = true := by decide +kernel
set_option maxRecDepth 100000 in
theorem po_283 : pk_283.all (pOKe RL) = true := by decide +kernel
set_option maxRecDepth 100000 in
theorem po_284 : pk_284.all (pOKe RL) = true := by decide +kernel
set_option maxRecDepth 100000 in
theorem po_285 : pk_285.all (pOKe RL) = true := by decide +kernel
set_option maxRecDepth 100000 in
theorem po_286 : pk_286.all (pOKe RL) = true := by decide +kernel
set_option maxRecDepth 100000 in
theorem po_287 : pk_287.all (pOKe RL) = true := by decide +kernel
set_option maxRecDepth 100000 in
theorem po_288 : pk_288.all (pOKe RL) = true := by decide +kernel
set_option maxRecDepth 100000 in
theorem po_289 : pk_289.all (pOKe RL) = true := by decide +kernel
set_option maxRecDepth 100000 in
theorem po_290 : pk_290.all (pOKe RL) = true := by decide +kernel
set_option maxRecDepth 100000 in
theorem po_291 : pk_291.all (pOKe RL) = true := by decide +kernel
set_option maxRecDepth 100000 in
theorem po_292 : pk_292.all (pOKe RL) = true := by decide +kernel
set_option maxRecDepth 100000 in
theorem po_293 : pk_293.all (pOKe RL) = true := by decide +kernel
set_option maxRecDepth 100000 in
theorem po_294 : pk_294.all (pOKe RL) = true := by decide +kernel
set_option maxRecDepth 100000 in
theorem po_295 : pk_295.all (pOKe RL) = true := by decide +kernel
set_option maxRecDepth 100000 in
theorem po_296 : pk_296.all (pOKe RL) = true := by decide +kernel
set_option maxRecDepth 100000 in
theorem po_297 : pk_297.all (pOKe RL) = true := by decide +kernel
set_option maxRecDepth 100000 in
theorem po_298 : pk_298.all (pOKe RL) = true := by decide +kernel
set_option maxRecDepth 100000 in
theorem po_299 : pk_299.all (pOKe RL) = true := by decide +kernel
set_option maxRecDepth 100000 in
theorem po_300 : pk_300.all (pOKe RL) = true := by decide +kernel
set_option maxRecDepth 100000 in
theorem po_301 : pk_301.all (pOKe RL) = true := by decide +kernel
theorem pO_g0 : ∀ r ∈ pM_0, r.2.2.2.2.2.2.all (pOKe (pCls.getD r.2.2.2.2.1 "")) = true := List.forall_mem_cons.mpr ⟨po_0, List.forall_mem_cons.mpr ⟨po_1, List.forall_mem_cons.mpr ⟨po_2, List.forall_mem_cons.mpr ⟨po_3, List.forall_mem_cons.mpr ⟨po_4, List.forall_mem_cons.mpr ⟨po_5, List.forall_mem_cons.mpr ⟨po_6, List.forall_mem_cons.mpr ⟨po_7, List.forall_mem_cons.mpr ⟨po_8, List.forall_mem_cons.mpr ⟨po_9, List.forall_mem_cons.mpr ⟨po_10, List.forall_mem_cons.mpr ⟨po_11, List.forall_mem_cons.mpr ⟨po_12, List.forall_mem_cons.mpr ⟨po_13, List.forall_mem_cons.mpr ⟨po_14, List.forall_mem_cons.mpr ⟨po_15, List.forall_mem_cons.mpr ⟨po_16, List.forall_mem_cons.mpr ⟨po_17, List.forall_mem_cons.mpr ⟨po_18, List.forall_mem_cons.mpr ⟨po_19, List.forall_mem_cons.mpr ⟨po_20, List.forall_mem_cons.mpr ⟨po_21, List.forall_mem_cons.mpr ⟨po_22, List.forall_mem_cons.mpr ⟨po_23, List.forall_mem_cons.mpr ⟨po_24, List.forall_mem_cons.mpr ⟨po_25, List.forall_mem_cons.mpr ⟨po_26, List.forall_mem_cons.mpr ⟨po_27, List.forall_mem_cons.mpr ⟨po_28, List.forall_mem_cons.mpr ⟨po_29, List.forall_mem_cons.mpr ⟨po_30, List.forall_mem_cons.mpr ⟨po_31, List.forall_mem_cons.mpr ⟨po_32, List.forall_mem_cons.mpr ⟨po_33, List.forall_mem_cons.mpr ⟨po_34, List.forall_mem_cons.mpr ⟨po_35, List.forall_mem_cons.mpr ⟨po_36, List.forall_mem_cons.mpr ⟨po_37, List.forall_mem_cons.mpr ⟨po_38, List.forall_mem_cons.mpr ⟨po_39, (fun _ h => absurd h List.not_mem_nil)⟩⟩⟩⟩⟩⟩⟩⟩⟩⟩⟩⟩⟩⟩⟩⟩⟩⟩⟩⟩⟩⟩⟩⟩⟩⟩⟩⟩⟩⟩⟩⟩⟩⟩⟩⟩⟩⟩⟩⟩
theorem pO_g1 : ∀ r ∈ pM_1, r.2.2.2.2.2.2.all (pOKe (pCls.getD r.2.2.2.2.1 "")) = true := List.forall_mem_cons.mpr ⟨po_40, List.forall_mem_cons.mpr ⟨po_41, List.forall_mem_cons.mpr ⟨po_42, List.forall_mem_cons.mpr ⟨po_43, List.forall_mem_cons.mpr ⟨po_44, List.forall_mem_cons.mpr ⟨po_45, List.forall_mem_cons.mpr ⟨po_46, List.forall_mem_cons.mpr ⟨po_47, List.forall_mem_cons.mpr ⟨po_48, List.forall_mem_cons.mpr ⟨po_49, List.forall_mem_cons.mpr ⟨po_50, List.forall_mem_cons.mpr ⟨po_51, List.forall_mem_cons.mpr ⟨po_52, List.forall_mem_cons.mpr ⟨po_53, List.forall_mem_cons.mpr ⟨po_54, List.forall_mem_cons.mpr ⟨po_55, List.forall_mem_cons.mpr ⟨po_56, List.forall_mem_cons.mpr ⟨po_57, List.forall_mem_cons.mpr ⟨po_58, List.forall_mem_cons.mpr ⟨po_59, List.forall_mem_cons.mpr ⟨po_60, List.forall_mem_cons.mpr ⟨po_61, List.forall_mem_cons.mpr ⟨po_62, List.forall_mem_cons.mpr ⟨po_63, List.forall_mem_cons.mpr ⟨po_64, List.forall_mem_cons.mpr ⟨po_65, List.forall_mem_cons.mpr ⟨po_66, List.forall_mem_cons.mpr ⟨po_67, List.forall_mem_cons.mpr ⟨po_68, List.forall_mem_cons.mpr ⟨po_69, List.forall_mem_cons.mpr ⟨po_70, List.forall_mem_cons.mpr ⟨po_71, List.forall_mem_cons.mpr ⟨po_72, List.forall_mem_cons.mpr ⟨po_73, List.forall_mem_cons.mpr ⟨po_74, List.forall_mem_cons.mpr ⟨po_75, List.forall_mem_cons.mpr ⟨po_76, List.forall_mem_cons.mpr ⟨po_77, List.forall_mem_cons.mpr ⟨po_78, List.forall_mem_cons.mpr ⟨po_79, (fun _ h => absurd h List.not_mem_nil)⟩⟩⟩⟩⟩⟩⟩⟩⟩⟩⟩⟩⟩⟩⟩⟩⟩⟩⟩⟩⟩⟩⟩⟩⟩⟩⟩⟩⟩⟩⟩⟩⟩⟩⟩⟩⟩⟩⟩⟩
theorem pO_g2 : ∀ r ∈ pM_2, r.2.2.2.2.2.2.all (pOKe (pCls.getD r.2.2.2.2.1 "")) = true := List.forall_mem_cons.mpr ⟨po_80, List.forall_mem_cons.mpr ⟨po_81, List.forall_mem_cons.mpr ⟨po_82, List.forall_mem_cons.mpr ⟨po_83, List.forall_mem_cons.mpr ⟨po_84, List.forall_mem_cons.mpr ⟨po_85, List.forall_mem_cons.mpr ⟨po_86, List.forall_mem_cons.mpr ⟨po_87, List.forall_mem_cons.mpr ⟨po_88, List.forall_mem_cons.mpr ⟨po_89, List.forall_mem_cons.mpr ⟨po_90, List.forall_mem_cons.mpr ⟨po_91, List.forall_mem_cons.mpr ⟨po_92, List.forall_mem_cons.mpr ⟨po_93, List.forall_mem_cons.mpr ⟨po_94, List.forall_mem_cons.mpr ⟨po_95, List.forall_mem_cons.mpr ⟨po_96, List.forall_mem_cons.mpr ⟨po_97, List.forall_mem_cons.mpr ⟨po_98, List.forall_mem_cons.mpr ⟨po_99, List.forall_mem_cons.mpr ⟨po_100, List.forall_mem_cons.mpr ⟨po_101, List.forall_mem_cons.mpr ⟨po_102, List.forall_mem_cons.mpr ⟨po_103, List.forall_mem_cons.mpr ⟨po_104, List.forall_mem_cons.mpr ⟨po_105, List.forall_mem_cons.mpr ⟨po_106, List.forall_mem_cons.mpr ⟨po_107, List.forall_mem_cons.mpr ⟨po_108, List.forall_mem_cons.mpr ⟨po_109, List.forall_mem_cons.mpr ⟨po_110, List.forall_mem_cons.mpr ⟨po_111, List.forall_mem_cons.mpr ⟨po_112, List.forall_mem_cons.mpr ⟨po_113, List.forall_mem_cons.mpr ⟨po_114, List.forall_mem_cons.mpr ⟨po_115, List.forall_mem_cons.mpr ⟨po_116, List.forall_mem_cons.mpr ⟨po_117, List.forall_mem_cons.mpr ⟨po_118, List.forall_mem_cons.mpr ⟨po_119, (fun _ h => absurd h List.not_mem_nil)⟩⟩⟩⟩⟩⟩⟩⟩⟩⟩⟩⟩⟩⟩⟩⟩⟩⟩⟩⟩⟩⟩⟩⟩⟩⟩⟩⟩⟩⟩⟩⟩⟩⟩⟩⟩⟩⟩⟩⟩
theorem pO_g3 : ∀ r ∈ pM_3, r.2.2.2.2.2.2.all (pOKe (pCls.getD r.2.2.2.2.1 "")) = true := List.forall_mem_cons.mpr ⟨po_120, List.forall_mem_cons.mpr ⟨po_121, List.forall_mem_cons.mpr ⟨po_122, List.forall_mem_cons.mpr ⟨po_123, List.forall_mem_cons.mpr ⟨po_124, List.forall_mem_cons.mpr ⟨po_125, List.forall_mem_cons.mpr ⟨po_126, List.forall_mem_cons.mpr ⟨po_127, List.forall_mem_cons.mpr ⟨po_128, List.forall_mem_cons.mpr ⟨po_129, List.forall_mem_cons.mpr ⟨po_130, List.forall_mem_cons.mpr ⟨po_131, List.forall_mem_cons.mpr ⟨po_132, List.forall_mem_cons.mpr ⟨po_133, List.forall_mem_cons.mpr ⟨po_134, List.forall_mem_cons.mpr ⟨po_135, List.forall_mem_cons.mpr ⟨po_136, List.forall_mem_cons.mpr ⟨po_137, List.forall_mem_cons.mpr ⟨po_138, List.forall_mem_cons.mpr ⟨po_139, List.forall_mem_cons.mpr ⟨po_140, List.forall_mem_cons.mpr ⟨po_141, List.forall_mem_cons.mpr ⟨po_142, List.forall_mem_cons.mpr ⟨po_143, List.forall_mem_cons.mpr ⟨po_144, List.forall_mem_cons.mpr ⟨po_145, List.forall_mem_cons.mpr ⟨po_146, List.forall_mem_cons.mpr ⟨po_147, List.forall_mem_cons.mpr ⟨po_148, List.forall_mem_cons.mpr ⟨po_149, List.forall_mem_cons.mpr ⟨po_150, List.forall_mem_cons.mpr ⟨po_151, List.forall_mem_cons.mpr ⟨po_152, List.forall_mem_cons.mpr ⟨po_153, List.forall_mem_cons.mpr ⟨po_154, List.forall_mem_cons.mpr ⟨po_155, List.forall_mem_cons.mpr ⟨po_156, List.forall_mem_cons.mpr ⟨po_157, List.forall_mem_cons.mpr ⟨po_158, List.forall_mem_cons.mpr ⟨po_159, (fun _ h => absurd h List.not_mem_nil)⟩⟩⟩⟩⟩⟩⟩⟩⟩⟩⟩⟩⟩⟩⟩⟩⟩⟩⟩⟩⟩⟩⟩⟩⟩⟩⟩⟩⟩⟩⟩⟩⟩⟩⟩⟩⟩⟩⟩⟩
theorem pO_g4 : ∀ r ∈ pM_4, r.2.2.2.2.2.2.all (pOKe (pCls.getD r.2.2.2.2.1 "")) = true := List.forall_mem_cons.mpr ⟨po_160, List.forall_mem_cons.mpr ⟨po_161, List.forall_mem_cons.mpr ⟨po_162, List.forall_mem_cons.mpr ⟨po_163, List.forall_mem_cons.mpr ⟨po_164, List.forall_mem_cons.mpr ⟨po_165, List.forall_mem_cons.mpr ⟨po_166, List.forall_mem_cons.mpr ⟨po_167, List.forall_mem_cons.mpr ⟨po_168, List.forall_mem_cons.mpr ⟨po_169, List.forall_mem_cons.mpr ⟨po_170, List.forall_mem_cons.mpr ⟨po_171, List.forall_mem_cons.mpr ⟨po_172, List.forall_mem_cons.mpr ⟨po_173, List.forall_mem_cons.mpr ⟨po_174, List.forall_mem_cons.mpr ⟨po_175, List.forall_mem_cons.mpr ⟨po_176, List.forall_mem_cons.mpr ⟨po_177, List.forall_mem_cons.mpr ⟨po_178, List.forall_mem_cons.mpr ⟨po_179, List.forall_mem_cons.mpr ⟨po_180, List.forall_mem_cons.mpr ⟨po_181, List.forall_mem_cons.mpr ⟨po_182, List.forall_mem_cons.mpr ⟨po_183, List.forall_mem_cons.mpr ⟨po_184, List.forall_mem_cons.mpr ⟨po_185, List.forall_mem_cons.mpr ⟨po_186, List.forall_mem_cons.mpr ⟨po_187, List.forall_mem_cons.mpr ⟨po_188, List.forall_mem_cons.mpr ⟨po_189, List.forall_mem_cons.mpr ⟨po_190, List.forall_mem_cons.mpr ⟨po_191, List.forall_mem_cons.mpr ⟨po_192, List.forall_mem_cons.mpr ⟨po_193, List.forall_mem_cons.mpr ⟨po_194, List.forall_mem_cons.mpr ⟨po_195, List.forall_mem_cons.mpr ⟨po_196, List.forall_mem_cons.mpr ⟨po_197, List.forall_mem_cons.mpr ⟨po_198, List.forall_mem_cons.mpr ⟨po_199, (fun _ h => absurd h List.not_mem_nil)⟩⟩⟩⟩⟩⟩⟩⟩⟩⟩⟩⟩⟩⟩⟩⟩⟩⟩⟩⟩⟩⟩⟩⟩⟩⟩⟩⟩⟩⟩⟩⟩⟩⟩⟩⟩⟩⟩⟩⟩
theorem pO_g5 : ∀ r ∈ pM_5, r.2.2.2.2.2.2.all (pOKe (pCls.getD r.2.2.2.2.1 "")) = true := List.forall_mem_cons.mpr ⟨po_200, List.forall_mem_cons.mpr ⟨po_201, List.forall_mem_cons.mpr ⟨po_202, List.forall_mem_cons.mpr ⟨po_203, List.forall_mem_cons.mpr ⟨po_204, List.forall_mem_cons.mpr ⟨po_205, List.forall_mem_cons.mpr ⟨po_206, List.forall_mem_cons.mpr ⟨po_207, List.forall_mem_cons.mpr ⟨po_208, List.forall_mem_cons.mpr ⟨po_209, List.forall_mem_cons.mpr ⟨po_210, List.forall_mem_cons.mpr ⟨po_211, List.forall_mem_cons.mpr ⟨po_212, List.forall_mem_cons.mpr ⟨po_213, List.forall_mem_cons.mpr ⟨po_214, List.forall_mem_cons.mpr ⟨po_215, List.forall_mem_cons.mpr ⟨po_216, List.forall_mem_cons.mpr ⟨po_217, List.forall_mem_cons.mpr ⟨po_218, List.forall_mem_cons.mpr ⟨po_219, List.forall_mem_cons.mpr ⟨po_220, List.forall_mem_cons.mpr ⟨po_221, List.forall_mem_cons.mpr ⟨po_222, List.forall_mem_cons.mpr ⟨po_223, List.forall_mem_cons.mpr ⟨po_224, List.forall_mem_cons.mpr ⟨po_225, List.forall_mem_cons.mpr ⟨po_226, List.forall_mem_cons.mpr ⟨po_227, List.forall_mem_cons.mpr ⟨po_228, List.forall_mem_cons.mpr ⟨po_229, List.forall_mem_cons.mpr ⟨po_230, List.forall_mem_cons.mpr ⟨po_231, List.forall_mem_cons.mpr ⟨po_232, List.forall_mem_cons.mpr ⟨po_233, List.forall_mem_cons.mpr ⟨po_234, List.forall_mem_cons.mpr ⟨po_235, List.forall_mem_cons.mpr ⟨po_236, List.forall_mem_cons.mpr ⟨po_237, List.forall_mem_cons.mpr ⟨po_238, List.forall_mem_cons.mpr ⟨po_239, (fun _ h => absurd h List.not_mem_nil)⟩⟩⟩⟩⟩⟩⟩⟩⟩⟩⟩⟩⟩⟩⟩⟩⟩⟩⟩⟩⟩⟩⟩⟩⟩⟩⟩⟩⟩⟩⟩⟩⟩⟩⟩⟩⟩⟩⟩⟩
theorem pO_g6 : ∀ r ∈ pM_6, r.2.2.2.2.2.2.all (pOKe (pCls.getD r.2.2.2.2.1 "")) = true := List.forall_mem_cons.mpr ⟨po_240, List.forall_mem_cons.mpr ⟨po_241, List.forall_mem_cons.mpr ⟨po_242, List.forall_mem_cons.mpr ⟨po_243, List.forall_mem_cons.mpr ⟨po_244, List.forall_mem_cons.mpr ⟨po_245, List.forall_mem_cons.mpr ⟨po_246, List.forall_mem_cons.mpr ⟨po_247, List.forall_mem_cons.mpr ⟨po_248, List.forall_mem_cons.mpr ⟨po_249, List.forall_mem_cons.mpr ⟨po_250, List.forall_mem_cons.mpr ⟨po_251, List.forall_mem_cons.mpr ⟨po_252, List.forall_mem_cons.mpr ⟨po_253, List.forall_mem_cons.mpr ⟨po_254, List.forall_mem_cons.mpr ⟨po_255, List.forall_mem_cons.mpr ⟨po_256, List.forall_mem_cons.mpr ⟨po_257, List.forall_mem_cons.mpr ⟨po_258, List.forall_mem_cons.mpr ⟨po_259, List.forall_mem_cons.mpr ⟨po_260, List.forall_mem_cons.mpr ⟨po_261, List.forall_mem_cons.mpr ⟨po_262, List.forall_mem_cons.mpr ⟨po_263, List.forall_mem_cons.mpr ⟨po_264, List.forall_mem_cons.mpr ⟨po_265, List.forall_mem_cons.mpr ⟨po_266, List.forall_mem_cons.mpr ⟨po_267, List.forall_mem_cons.mpr ⟨po_268, List.forall_mem_cons.mpr ⟨po_269, List.forall_mem_cons.mpr ⟨po_270, List.forall_mem_cons.mpr ⟨po_271, List.forall_mem_cons.mpr ⟨po_272, List.forall_mem_cons.mpr ⟨po_273, List.forall_mem_cons.mpr ⟨po_274, List.forall_mem_cons.mpr ⟨po_275, List.forall_mem_cons.mpr ⟨po_276, List.forall_mem_cons.mpr ⟨po_277, List.forall_mem_cons.mpr ⟨po_278, List.forall_mem_cons.mpr ⟨po_279, (fun _ h => absurd h List.not_mem_nil)⟩⟩⟩⟩⟩⟩⟩⟩⟩⟩⟩⟩⟩⟩⟩⟩⟩⟩⟩⟩⟩⟩⟩⟩⟩⟩⟩⟩⟩⟩⟩⟩⟩⟩⟩⟩⟩⟩⟩⟩
theorem pO_g7 : ∀ r ∈ pM_7, r.2.2.2.2.2.2.all (pOKe (pCls.getD r.2.2.2.2.1 "")) = true := List.forall_mem_cons.mpr ⟨po_280, List.forall_mem_cons.mpr ⟨po_281, List.forall_mem_cons.mpr ⟨po_282, List.forall_mem_cons.mpr ⟨po_283, List.forall_mem_cons.mpr ⟨po_284, List.forall_mem_cons.mpr ⟨po_285, List.forall_mem_cons.mpr ⟨po_286, List.forall_mem_cons.mpr ⟨po_287, List.forall_mem_cons.mpr ⟨po_288, List.forall_mem_cons.mpr ⟨po_289, List.forall_mem_cons.mpr ⟨po_290, List.forall_mem_cons.mpr ⟨po_291, List.forall_mem_cons.mpr ⟨po_292, List.forall_mem_cons.mpr ⟨po_293, List.forall_mem_cons.mpr ⟨po_294, List.forall_mem_cons.mpr ⟨po_295, List.forall_mem_cons.mpr ⟨po_296, List.forall_mem_cons.mpr ⟨po_297, List.forall_mem_cons.mpr ⟨po_298, List.forall_mem_cons.mpr ⟨po_299, List.forall_mem_cons.mpr ⟨po_300, List.forall_mem_cons.mpr ⟨po_301, (fun _ h => absurd h List.not_mem_nil)⟩⟩⟩⟩⟩⟩⟩⟩⟩⟩⟩⟩⟩⟩⟩⟩⟩⟩⟩⟩⟩⟩
theorem pM_ok : ∀ r ∈ pM, r.2.2.2.2.2.2.all (pOKe (pCls.getD r.2.2.2.2.1 "")) = true := List.forall_mem_append.mpr ⟨pO_g0, List.forall_mem_append.mpr ⟨pO_g1, List.forall_mem_append.mpr ⟨pO_g2, List.forall_mem_append.mpr ⟨pO_g3, List.forall_mem_append.mpr ⟨pO_g4, List.forall_mem_append.mpr ⟨pO_g5, List.forall_mem_append.mpr ⟨pO_g6, pO_g7⟩⟩⟩⟩⟩⟩⟩
theorem pM_okAt {j k : Nat} {r : pMrow} {e : pEnt} (hj : pM[j]? = some r) (h : pAt r.2.2.2.2.2.2 k = some e) : pOKe (pCls.getD r.2.2.2.2.1 "") e = true := by
  have h1 := pM_ok r (List.mem_of_getElem? hj)
  refine List.all_eq_true.mp h1 e ?_
  generalize r.2.2.2.2.2.2 = l at h
  clear h1 hj
  induction l generalizing k with
  | nil => simp [pAt] at h
  | cons x l ih =>
    simp only [pAt] at h
    split at h
    · cases h; exact List.mem_cons_self
    · split at h
      · cases h
      · exact List.mem_cons_of_mem _ (ih h)

