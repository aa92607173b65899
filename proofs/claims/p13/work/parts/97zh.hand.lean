/-! THE RELATION, and the cases of the law by hand; printed by wip/rel/p9.py -/
theorem i_167_0 : iRow 167 0 = some (.aload_n 0, 0, 0, 0, (some (Jvm.ClassFile.FieldType.int))) := rfl
theorem i_167_1 : iRow 167 1 = some (.getfield 3, 164, 12, 0, (some (Jvm.ClassFile.FieldType.int))) := rfl
theorem i_167_4 : iRow 167 4 = some (.ireturn, 0, 0, 0, (some (Jvm.ClassFile.FieldType.int))) := rfl
set_option maxRecDepth 20000 in
theorem i_301_432 : iRow 301 432 = some (.aload_n 1, 0, 0, 0, (some (Jvm.ClassFile.FieldType.boolean))) := rfl
set_option maxRecDepth 20000 in
theorem i_301_433 : iRow 301 433 = some (.aload_n 0, 0, 0, 0, (some (Jvm.ClassFile.FieldType.boolean))) := rfl
set_option maxRecDepth 20000 in
theorem i_301_434 : iRow 301 434 = some (.iload 4, 0, 0, 0, (some (Jvm.ClassFile.FieldType.boolean))) := rfl
set_option maxRecDepth 20000 in
theorem i_301_436 : iRow 301 436 = some (.iconst 1, 0, 0, 0, (some (Jvm.ClassFile.FieldType.boolean))) := rfl
set_option maxRecDepth 20000 in
theorem i_301_437 : iRow 301 437 = some (.iadd, 0, 0, 0, (some (Jvm.ClassFile.FieldType.boolean))) := rfl
set_option maxRecDepth 20000 in
theorem i_301_438 : iRow 301 438 = some (.iaload, 0, 0, 0, (some (Jvm.ClassFile.FieldType.boolean))) := rfl
set_option maxRecDepth 20000 in
theorem i_301_439 : iRow 301 439 = some (.aload_n 3, 0, 0, 0, (some (Jvm.ClassFile.FieldType.boolean))) := rfl
set_option maxRecDepth 20000 in
theorem i_301_440 : iRow 301 440 = some (.invokestatic 135, 149, 281, 0, (some (Jvm.ClassFile.FieldType.boolean))) := rfl
set_option maxRecDepth 20000 in
theorem i_301_443 : iRow 301 443 = some (.istore 5, 0, 0, 0, (some (Jvm.ClassFile.FieldType.boolean))) := rfl
set_option maxRecDepth 20000 in
theorem i_301_445 : iRow 301 445 = some (.aload_n 2, 0, 0, 0, (some (Jvm.ClassFile.FieldType.boolean))) := rfl
set_option maxRecDepth 20000 in
theorem i_301_446 : iRow 301 446 = some (.aload_n 0, 0, 0, 0, (some (Jvm.ClassFile.FieldType.boolean))) := rfl
set_option maxRecDepth 20000 in
theorem i_301_447 : iRow 301 447 = some (.iload 4, 0, 0, 0, (some (Jvm.ClassFile.FieldType.boolean))) := rfl
set_option maxRecDepth 20000 in
theorem i_301_449 : iRow 301 449 = some (.iconst 1, 0, 0, 0, (some (Jvm.ClassFile.FieldType.boolean))) := rfl
set_option maxRecDepth 20000 in
theorem i_301_450 : iRow 301 450 = some (.iadd, 0, 0, 0, (some (Jvm.ClassFile.FieldType.boolean))) := rfl
set_option maxRecDepth 20000 in
theorem i_301_451 : iRow 301 451 = some (.iaload, 0, 0, 0, (some (Jvm.ClassFile.FieldType.boolean))) := rfl
set_option maxRecDepth 20000 in
theorem i_301_452 : iRow 301 452 = some (.invokevirtual 137, 290, 201, 1, (some (Jvm.ClassFile.FieldType.boolean))) := rfl
set_option maxRecDepth 20000 in
theorem i_301_455 : iRow 301 455 = some (.istore 6, 0, 0, 0, (some (Jvm.ClassFile.FieldType.boolean))) := rfl
set_option maxRecDepth 20000 in
theorem i_301_457 : iRow 301 457 = some (.goto 982, 0, 0, 0, (some (Jvm.ClassFile.FieldType.boolean))) := rfl
set_option maxRecDepth 20000 in
theorem i_301_678 : iRow 301 678 = some (.aload_n 1, 0, 0, 0, (some (Jvm.ClassFile.FieldType.boolean))) := rfl
set_option maxRecDepth 20000 in
theorem i_301_679 : iRow 301 679 = some (.aload_n 0, 0, 0, 0, (some (Jvm.ClassFile.FieldType.boolean))) := rfl
set_option maxRecDepth 20000 in
theorem i_301_680 : iRow 301 680 = some (.iload 4, 0, 0, 0, (some (Jvm.ClassFile.FieldType.boolean))) := rfl
set_option maxRecDepth 20000 in
theorem i_301_682 : iRow 301 682 = some (.iconst 1, 0, 0, 0, (some (Jvm.ClassFile.FieldType.boolean))) := rfl
set_option maxRecDepth 20000 in
theorem i_301_683 : iRow 301 683 = some (.iadd, 0, 0, 0, (some (Jvm.ClassFile.FieldType.boolean))) := rfl
set_option maxRecDepth 20000 in
theorem i_301_684 : iRow 301 684 = some (.iaload, 0, 0, 0, (some (Jvm.ClassFile.FieldType.boolean))) := rfl
set_option maxRecDepth 20000 in
theorem i_301_685 : iRow 301 685 = some (.aload_n 0, 0, 0, 0, (some (Jvm.ClassFile.FieldType.boolean))) := rfl
set_option maxRecDepth 20000 in
theorem i_301_686 : iRow 301 686 = some (.iload 4, 0, 0, 0, (some (Jvm.ClassFile.FieldType.boolean))) := rfl
set_option maxRecDepth 20000 in
theorem i_301_688 : iRow 301 688 = some (.iconst 2, 0, 0, 0, (some (Jvm.ClassFile.FieldType.boolean))) := rfl
set_option maxRecDepth 20000 in
theorem i_301_689 : iRow 301 689 = some (.iadd, 0, 0, 0, (some (Jvm.ClassFile.FieldType.boolean))) := rfl
set_option maxRecDepth 20000 in
theorem i_301_690 : iRow 301 690 = some (.iaload, 0, 0, 0, (some (Jvm.ClassFile.FieldType.boolean))) := rfl
set_option maxRecDepth 20000 in
theorem i_301_691 : iRow 301 691 = some (.aload_n 0, 0, 0, 0, (some (Jvm.ClassFile.FieldType.boolean))) := rfl
set_option maxRecDepth 20000 in
theorem i_301_692 : iRow 301 692 = some (.iload 4, 0, 0, 0, (some (Jvm.ClassFile.FieldType.boolean))) := rfl
set_option maxRecDepth 20000 in
theorem i_301_694 : iRow 301 694 = some (.iconst 3, 0, 0, 0, (some (Jvm.ClassFile.FieldType.boolean))) := rfl
set_option maxRecDepth 20000 in
theorem i_301_695 : iRow 301 695 = some (.iadd, 0, 0, 0, (some (Jvm.ClassFile.FieldType.boolean))) := rfl
set_option maxRecDepth 20000 in
theorem i_301_696 : iRow 301 696 = some (.iaload, 0, 0, 0, (some (Jvm.ClassFile.FieldType.boolean))) := rfl
set_option maxRecDepth 20000 in
theorem i_301_697 : iRow 301 697 = some (.aload_n 0, 0, 0, 0, (some (Jvm.ClassFile.FieldType.boolean))) := rfl
set_option maxRecDepth 20000 in
theorem i_301_698 : iRow 301 698 = some (.iload 4, 0, 0, 0, (some (Jvm.ClassFile.FieldType.boolean))) := rfl
set_option maxRecDepth 20000 in
theorem i_301_700 : iRow 301 700 = some (.iconst 4, 0, 0, 0, (some (Jvm.ClassFile.FieldType.boolean))) := rfl
set_option maxRecDepth 20000 in
theorem i_301_701 : iRow 301 701 = some (.iadd, 0, 0, 0, (some (Jvm.ClassFile.FieldType.boolean))) := rfl
set_option maxRecDepth 20000 in
theorem i_301_702 : iRow 301 702 = some (.iaload, 0, 0, 0, (some (Jvm.ClassFile.FieldType.boolean))) := rfl
set_option maxRecDepth 20000 in
theorem i_301_703 : iRow 301 703 = some (.aload_n 3, 0, 0, 0, (some (Jvm.ClassFile.FieldType.boolean))) := rfl
set_option maxRecDepth 20000 in
theorem i_301_704 : iRow 301 704 = some (.invokestatic 150, 168, 285, 0, (some (Jvm.ClassFile.FieldType.boolean))) := rfl
set_option maxRecDepth 20000 in
theorem i_301_707 : iRow 301 707 = some (.istore 5, 0, 0, 0, (some (Jvm.ClassFile.FieldType.boolean))) := rfl
set_option maxRecDepth 20000 in
theorem i_301_709 : iRow 301 709 = some (.aload_n 2, 0, 0, 0, (some (Jvm.ClassFile.FieldType.boolean))) := rfl
set_option maxRecDepth 20000 in
theorem i_301_710 : iRow 301 710 = some (.aload_n 0, 0, 0, 0, (some (Jvm.ClassFile.FieldType.boolean))) := rfl
set_option maxRecDepth 20000 in
theorem i_301_711 : iRow 301 711 = some (.iload 4, 0, 0, 0, (some (Jvm.ClassFile.FieldType.boolean))) := rfl
set_option maxRecDepth 20000 in
theorem i_301_713 : iRow 301 713 = some (.iconst 1, 0, 0, 0, (some (Jvm.ClassFile.FieldType.boolean))) := rfl
set_option maxRecDepth 20000 in
theorem i_301_714 : iRow 301 714 = some (.iadd, 0, 0, 0, (some (Jvm.ClassFile.FieldType.boolean))) := rfl
set_option maxRecDepth 20000 in
theorem i_301_715 : iRow 301 715 = some (.iaload, 0, 0, 0, (some (Jvm.ClassFile.FieldType.boolean))) := rfl
set_option maxRecDepth 20000 in
theorem i_301_716 : iRow 301 716 = some (.aload_n 0, 0, 0, 0, (some (Jvm.ClassFile.FieldType.boolean))) := rfl
set_option maxRecDepth 20000 in
theorem i_301_717 : iRow 301 717 = some (.iload 4, 0, 0, 0, (some (Jvm.ClassFile.FieldType.boolean))) := rfl
set_option maxRecDepth 20000 in
theorem i_301_719 : iRow 301 719 = some (.iconst 2, 0, 0, 0, (some (Jvm.ClassFile.FieldType.boolean))) := rfl
set_option maxRecDepth 20000 in
theorem i_301_720 : iRow 301 720 = some (.iadd, 0, 0, 0, (some (Jvm.ClassFile.FieldType.boolean))) := rfl
set_option maxRecDepth 20000 in
theorem i_301_721 : iRow 301 721 = some (.iaload, 0, 0, 0, (some (Jvm.ClassFile.FieldType.boolean))) := rfl
set_option maxRecDepth 20000 in
theorem i_301_722 : iRow 301 722 = some (.aload_n 0, 0, 0, 0, (some (Jvm.ClassFile.FieldType.boolean))) := rfl
set_option maxRecDepth 20000 in
theorem i_301_723 : iRow 301 723 = some (.iload 4, 0, 0, 0, (some (Jvm.ClassFile.FieldType.boolean))) := rfl
set_option maxRecDepth 20000 in
theorem i_301_725 : iRow 301 725 = some (.iconst 3, 0, 0, 0, (some (Jvm.ClassFile.FieldType.boolean))) := rfl
set_option maxRecDepth 20000 in
theorem i_301_726 : iRow 301 726 = some (.iadd, 0, 0, 0, (some (Jvm.ClassFile.FieldType.boolean))) := rfl
set_option maxRecDepth 20000 in
theorem i_301_727 : iRow 301 727 = some (.iaload, 0, 0, 0, (some (Jvm.ClassFile.FieldType.boolean))) := rfl
set_option maxRecDepth 20000 in
theorem i_301_728 : iRow 301 728 = some (.aload_n 0, 0, 0, 0, (some (Jvm.ClassFile.FieldType.boolean))) := rfl
set_option maxRecDepth 20000 in
theorem i_301_729 : iRow 301 729 = some (.iload 4, 0, 0, 0, (some (Jvm.ClassFile.FieldType.boolean))) := rfl
set_option maxRecDepth 20000 in
theorem i_301_731 : iRow 301 731 = some (.iconst 4, 0, 0, 0, (some (Jvm.ClassFile.FieldType.boolean))) := rfl
set_option maxRecDepth 20000 in
theorem i_301_732 : iRow 301 732 = some (.iadd, 0, 0, 0, (some (Jvm.ClassFile.FieldType.boolean))) := rfl
set_option maxRecDepth 20000 in
theorem i_301_733 : iRow 301 733 = some (.iaload, 0, 0, 0, (some (Jvm.ClassFile.FieldType.boolean))) := rfl
set_option maxRecDepth 20000 in
theorem i_301_734 : iRow 301 734 = some (.invokevirtual 153, 365, 274, 1, (some (Jvm.ClassFile.FieldType.boolean))) := rfl
set_option maxRecDepth 20000 in
theorem i_301_737 : iRow 301 737 = some (.istore 6, 0, 0, 0, (some (Jvm.ClassFile.FieldType.boolean))) := rfl
set_option maxRecDepth 20000 in
theorem i_301_739 : iRow 301 739 = some (.aload_n 2, 0, 0, 0, (some (Jvm.ClassFile.FieldType.boolean))) := rfl
set_option maxRecDepth 20000 in
theorem i_301_740 : iRow 301 740 = some (.invokevirtual 154, 253, 167, 1, (some (Jvm.ClassFile.FieldType.boolean))) := rfl
set_option maxRecDepth 20000 in
theorem i_301_743 : iRow 301 743 = some (.iload 5, 0, 0, 0, (some (Jvm.ClassFile.FieldType.boolean))) := rfl
set_option maxRecDepth 20000 in
theorem i_301_745 : iRow 301 745 = some (.if_icmp .eq 5, 0, 0, 0, (some (Jvm.ClassFile.FieldType.boolean))) := rfl
set_option maxRecDepth 20000 in
theorem i_301_748 : iRow 301 748 = some (.iconst 0, 0, 0, 0, (some (Jvm.ClassFile.FieldType.boolean))) := rfl
set_option maxRecDepth 20000 in
theorem i_301_749 : iRow 301 749 = some (.ireturn, 0, 0, 0, (some (Jvm.ClassFile.FieldType.boolean))) := rfl
set_option maxRecDepth 20000 in
theorem i_301_750 : iRow 301 750 = some (.iload 5, 0, 0, 0, (some (Jvm.ClassFile.FieldType.boolean))) := rfl
set_option maxRecDepth 20000 in
theorem i_301_752 : iRow 301 752 = some (.ifCond .ne 15, 0, 0, 0, (some (Jvm.ClassFile.FieldType.boolean))) := rfl
set_option maxRecDepth 20000 in
theorem i_301_755 : iRow 301 755 = some (.aload_n 3, 0, 0, 0, (some (Jvm.ClassFile.FieldType.boolean))) := rfl
set_option maxRecDepth 20000 in
theorem i_301_756 : iRow 301 756 = some (.iconst 0, 0, 0, 0, (some (Jvm.ClassFile.FieldType.boolean))) := rfl
set_option maxRecDepth 20000 in
theorem i_301_757 : iRow 301 757 = some (.laload, 0, 0, 0, (some (Jvm.ClassFile.FieldType.boolean))) := rfl
set_option maxRecDepth 20000 in
theorem i_301_758 : iRow 301 758 = some (.iload 6, 0, 0, 0, (some (Jvm.ClassFile.FieldType.boolean))) := rfl
set_option maxRecDepth 20000 in
theorem i_301_760 : iRow 301 760 = some (.i2l, 0, 0, 0, (some (Jvm.ClassFile.FieldType.boolean))) := rfl
set_option maxRecDepth 20000 in
theorem i_301_761 : iRow 301 761 = some (.lcmp, 0, 0, 0, (some (Jvm.ClassFile.FieldType.boolean))) := rfl
set_option maxRecDepth 20000 in
theorem i_301_762 : iRow 301 762 = some (.ifCond .eq 5, 0, 0, 0, (some (Jvm.ClassFile.FieldType.boolean))) := rfl
set_option maxRecDepth 20000 in
theorem i_301_765 : iRow 301 765 = some (.iconst 0, 0, 0, 0, (some (Jvm.ClassFile.FieldType.boolean))) := rfl
set_option maxRecDepth 20000 in
theorem i_301_766 : iRow 301 766 = some (.ireturn, 0, 0, 0, (some (Jvm.ClassFile.FieldType.boolean))) := rfl
set_option maxRecDepth 20000 in
theorem i_301_767 : iRow 301 767 = some (.goto 672, 0, 0, 0, (some (Jvm.ClassFile.FieldType.boolean))) := rfl
set_option maxRecDepth 20000 in
theorem i_301_1390 : iRow 301 1390 = some (.aload_n 1, 0, 0, 0, (some (Jvm.ClassFile.FieldType.boolean))) := rfl
set_option maxRecDepth 20000 in
theorem i_301_1391 : iRow 301 1391 = some (.invokevirtual 216, 75, 70, 1, (some (Jvm.ClassFile.FieldType.boolean))) := rfl
set_option maxRecDepth 20000 in
theorem i_301_1394 : iRow 301 1394 = some (.aload_n 2, 0, 0, 0, (some (Jvm.ClassFile.FieldType.boolean))) := rfl
set_option maxRecDepth 20000 in
theorem i_301_1395 : iRow 301 1395 = some (.invokevirtual 219, 256, 169, 1, (some (Jvm.ClassFile.FieldType.boolean))) := rfl
set_option maxRecDepth 20000 in
theorem i_301_1398 : iRow 301 1398 = some (.goto 41, 0, 0, 0, (some (Jvm.ClassFile.FieldType.boolean))) := rfl
set_option maxRecDepth 20000 in
theorem i_301_1401 : iRow 301 1401 = some (.aload_n 1, 0, 0, 0, (some (Jvm.ClassFile.FieldType.boolean))) := rfl
set_option maxRecDepth 20000 in
theorem i_301_1402 : iRow 301 1402 = some (.invokevirtual 220, 77, 72, 1, (some (Jvm.ClassFile.FieldType.boolean))) := rfl
set_option maxRecDepth 20000 in
theorem i_301_1405 : iRow 301 1405 = some (.pop, 0, 0, 0, (some (Jvm.ClassFile.FieldType.boolean))) := rfl
set_option maxRecDepth 20000 in
theorem i_301_1406 : iRow 301 1406 = some (.aload_n 2, 0, 0, 0, (some (Jvm.ClassFile.FieldType.boolean))) := rfl
set_option maxRecDepth 20000 in
theorem i_301_1407 : iRow 301 1407 = some (.invokevirtual 224, 257, 170, 1, (some (Jvm.ClassFile.FieldType.boolean))) := rfl
set_option maxRecDepth 20000 in
theorem i_301_1410 : iRow 301 1410 = some (.pop, 0, 0, 0, (some (Jvm.ClassFile.FieldType.boolean))) := rfl
set_option maxRecDepth 20000 in
theorem i_301_1411 : iRow 301 1411 = some (.goto 28, 0, 0, 0, (some (Jvm.ClassFile.FieldType.boolean))) := rfl
set_option maxRecDepth 20000 in
theorem i_301_1439 : iRow 301 1439 = some (.iinc 4 7, 0, 0, 0, (some (Jvm.ClassFile.FieldType.boolean))) := rfl
set_option maxRecDepth 20000 in
theorem i_301_1442 : iRow 301 1442 = some (.goto (-1419), 0, 0, 0, (some (Jvm.ClassFile.FieldType.boolean))) := rfl
def j_flag (es : PH) : Prop := gI es 0 9 = gI es 79 3
def c_flag : List aMod := [(0, 11, 0, 1), (79, 5, 0, 1)]
theorem kp_flag {Mo : List aMod} {es es' : PH} (h : fr Mo es es') (hs : sh es) (hM : Mo.all (mFree c_flag) = true) (hj : j_flag es) : j_flag es' := by
  have q0 := (fr_gI h hs (p := 0) (b := 9) rfl (mIn_free hM (lo := 0) (hi := 1) (by decide) (Nat.le_refl 0) (by omega)) : gI es' 0 9 = gI es 0 9)
  have q1 := (fr_gI h hs (p := 79) (b := 3) rfl (mIn_free hM (lo := 0) (hi := 1) (by decide) (Nat.le_refl 0) (by omega)) : gI es' 79 3 = gI es 79 3)
  show gI es' 0 9 = gI es' 79 3
  rw [q0, q1]
  exact hj
def j_books (es : PH) : Prop := gI es 7 5 = gA es 80 1
def c_books : List aMod := [(7, 7, 0, 1), (80, 0, 1, 2)]
theorem kp_books {Mo : List aMod} {es es' : PH} (h : fr Mo es es') (hs : sh es) (hM : Mo.all (mFree c_books) = true) (hj : j_books es) : j_books es' := by
  have q0 := (fr_gI h hs (p := 7) (b := 5) rfl (mIn_free hM (lo := 0) (hi := 1) (by decide) (Nat.le_refl 0) (by omega)) : gI es' 7 5 = gI es 7 5)
  have q1 := (fun k h1 h2 => fr_gA h hs (p := 80) (t := 0) (n := 2125) (sp := tS80) rfl (by decide) (mIn_free hM (lo := 1) (hi := 2) (by decide) h1 h2) : ∀ k, 1 ≤ k → k < 2 → gA es' 80 k = gA es 80 k)
  show gI es' 7 5 = gA es' 80 1
  rw [q0, q1 1 (Nat.le_refl 1) (by omega)]
  exact hj
def j_booksI (es : PH) : Prop := (gI es 79 3).toInt ≠ 0 → gI es 18 5 = gA es 81 1
def c_booksI : List aMod := [(18, 7, 0, 1), (81, 0, 1, 2), (79, 5, 0, 1)]
theorem kp_booksI {Mo : List aMod} {es es' : PH} (h : fr Mo es es') (hs : sh es) (hM : Mo.all (mFree c_booksI) = true) (hj : j_booksI es) : j_booksI es' := by
  have q0 := (fr_gI h hs (p := 18) (b := 5) rfl (mIn_free hM (lo := 0) (hi := 1) (by decide) (Nat.le_refl 0) (by omega)) : gI es' 18 5 = gI es 18 5)
  have q1 := (fun k h1 h2 => fr_gA h hs (p := 81) (t := 0) (n := 1284) (sp := tS81) rfl (by decide) (mIn_free hM (lo := 1) (hi := 2) (by decide) h1 h2) : ∀ k, 1 ≤ k → k < 2 → gA es' 81 k = gA es 81 k)
  have q2 := (fr_gI h hs (p := 79) (b := 3) rfl (mIn_free hM (lo := 0) (hi := 1) (by decide) (Nat.le_refl 0) (by omega)) : gI es' 79 3 = gI es 79 3)
  intro hf
  rw [q2] at hf
  rw [q0, q1 1 (Nat.le_refl 1) (by omega)]
  exact hj hf
/-- what holds between both sides, ahead of every call -/
def J (es : PH) : Prop := j_flag es ∧ j_books es ∧ j_booksI es
theorem jMo_free : lawMoJ.all (mFree jProt) = true := by decide +kernel
theorem J_fr {es es' : PH} (hT : hOK tT es) (hf : fr lawMoJ es es') (hJ : J es) : J es' := by
  have hs := sh_of hT
  obtain ⟨j0, j1, j2⟩ := hJ
  exact ⟨kp_flag hf hs (free_sub jMo_free (by decide)) j0, kp_books hf hs (free_sub jMo_free (by decide)) j1, kp_booksI hf hs (free_sub jMo_free (by decide)) j2⟩
theorem J_start {es : PH} (h : startF es) : J es := by
  obtain ⟨f0, f1, f2, f3⟩ := h
  exact ⟨(by show gI es 0 9 = gI es 79 3; rw [f0, f1] : j_flag es), (by show gI es 7 5 = gA es 80 1; rw [f2, f3] : j_books es), (fun hf => by rw [f1] at hf; exact absurd rfl hf : j_booksI es)⟩
theorem s_l7a {O : pOut} {d kc ks : Nat} {Q : pRes → Prop} {es : PH} {xs : Nat → Int32} {n0 : Nat} {i : Int} {x5 x6 x7 : Option Value} (hs_es : sh es) (h_i : 0 ≤ i ∧ i + 7 ≤ (n0 : Int)) (hn0 : n0 ≤ 3584) (hO : O 7 = some (n0, xs))
    (K1 : ∀ v1 : Int, v1 = (xs (i + 1).toNat).toInt → aW O d 301 kc ks Q (440, [some (.ref 7), some (.ref 64), some (.ref 143), some (.ref 171), some (.int (zI i)), x5, x6, x7], [.ref 171, .int (zI v1), .ref 64], es)) :
    aW O d 301 kc ks Q (432, [some (.ref 7), some (.ref 64), some (.ref 143), some (.ref 171), some (.int (zI i)), x5, x6, x7], [], es) := by
  refine x0 (r := (433, [some (.ref 7), some (.ref 64), some (.ref 143), some (.ref 171), some (.int (zI i)), x5, x6, x7], [.ref 64], es)) i_301_432 rfl ?_
  refine x0 (r := (434, [some (.ref 7), some (.ref 64), some (.ref 143), some (.ref 171), some (.int (zI i)), x5, x6, x7], [.ref 7, .ref 64], es)) i_301_433 rfl ?_
  refine x0 (r := (436, [some (.ref 7), some (.ref 64), some (.ref 143), some (.ref 171), some (.int (zI i)), x5, x6, x7], [.int (zI i), .ref 7, .ref 64], es)) i_301_434 rfl ?_
  refine x0 (r := (437, [some (.ref 7), some (.ref 64), some (.ref 143), some (.ref 171), some (.int (zI i)), x5, x6, x7], [.int (zI 1), .int (zI i), .ref 7, .ref 64], es)) i_301_436 (by rfl) ?_
  refine x_iadd i_301_437 ?_
  refine x_oald (n := n0) (g := xs) i_301_438 hO (by unfold i32 iLO iHI; omega) (by omega) (by omega) ?_
  obtain ⟨v1, e_v1⟩ : ∃ z : Int, z = (xs (i + 1).toNat).toInt := ⟨_, rfl⟩
  rw [← e_v1]
  have r_v1 : iLO ≤ v1 ∧ v1 ≤ iHI := by rw [e_v1]; exact i32_rng _
  unfold iLO iHI at r_v1
  refine x0 (r := (440, [some (.ref 7), some (.ref 64), some (.ref 143), some (.ref 171), some (.int (zI i)), x5, x6, x7], [.ref 171, .int (zI v1), .ref 64], es)) i_301_439 rfl ?_
  exact K1 v1 e_v1
theorem s_l7b {O : pOut} {d kc ks : Nat} {Q : pRes → Prop} {es : PH} {xs : Nat → Int32} {n0 : Nat} {i k : Int} {x5 x6 x7 : Option Value} (hs_es : sh es) (h_i : 0 ≤ i ∧ i + 7 ≤ (n0 : Int)) (hn0 : n0 ≤ 3584) (hO : O 7 = some (n0, xs))
    (K1 : ∀ v1 : Int, v1 = (xs (i + 1).toNat).toInt → aW O d 301 kc ks Q (452, [some (.ref 7), some (.ref 64), some (.ref 143), some (.ref 171), some (.int (zI i)), some (.int (zI k)), x6, x7], [.int (zI v1), .ref 143], es)) :
    aW O d 301 kc ks Q (443, [some (.ref 7), some (.ref 64), some (.ref 143), some (.ref 171), some (.int (zI i)), x5, x6, x7], [.int (zI k)], es) := by
  refine x0 (r := (445, [some (.ref 7), some (.ref 64), some (.ref 143), some (.ref 171), some (.int (zI i)), some (.int (zI k)), x6, x7], [], es)) i_301_443 rfl ?_
  refine x0 (r := (446, [some (.ref 7), some (.ref 64), some (.ref 143), some (.ref 171), some (.int (zI i)), some (.int (zI k)), x6, x7], [.ref 143], es)) i_301_445 rfl ?_
  refine x0 (r := (447, [some (.ref 7), some (.ref 64), some (.ref 143), some (.ref 171), some (.int (zI i)), some (.int (zI k)), x6, x7], [.ref 7, .ref 143], es)) i_301_446 rfl ?_
  refine x0 (r := (449, [some (.ref 7), some (.ref 64), some (.ref 143), some (.ref 171), some (.int (zI i)), some (.int (zI k)), x6, x7], [.int (zI i), .ref 7, .ref 143], es)) i_301_447 rfl ?_
  refine x0 (r := (450, [some (.ref 7), some (.ref 64), some (.ref 143), some (.ref 171), some (.int (zI i)), some (.int (zI k)), x6, x7], [.int (zI 1), .int (zI i), .ref 7, .ref 143], es)) i_301_449 (by rfl) ?_
  refine x_iadd i_301_450 ?_
  refine x_oald (n := n0) (g := xs) i_301_451 hO (by unfold i32 iLO iHI; omega) (by omega) (by omega) ?_
  obtain ⟨v1, e_v1⟩ : ∃ z : Int, z = (xs (i + 1).toNat).toInt := ⟨_, rfl⟩
  rw [← e_v1]
  have r_v1 : iLO ≤ v1 ∧ v1 ≤ iHI := by rw [e_v1]; exact i32_rng _
  unfold iLO iHI at r_v1
  exact K1 v1 e_v1
theorem s_l7c {O : pOut} {d kc ks : Nat} {Q : pRes → Prop} {es : PH} {xs : Nat → Int32} {n0 : Nat} {i k b : Int} {x6 x7 : Option Value} (hs_es : sh es) (h_i : 0 ≤ i ∧ i + 7 ≤ (n0 : Int)) (hn0 : n0 ≤ 3584) (hO : O 7 = some (n0, xs)) (h_k : -2147483648 ≤ k ∧ k ≤ 2147483647) (h_b : -2147483648 ≤ b ∧ b ≤ 2147483647)
    (K1 : aW O d 301 kc ks Q (23, [some (.ref 7), some (.ref 64), some (.ref 143), some (.ref 171), some (.int (zI (i + 7))), some (.int (zI k)), some (.int (zI b)), x7], [], es)) :
    aW O d 301 kc ks Q (455, [some (.ref 7), some (.ref 64), some (.ref 143), some (.ref 171), some (.int (zI i)), some (.int (zI k)), x6, x7], [.int (zI b)], es) := by
  refine x0 (r := (457, [some (.ref 7), some (.ref 64), some (.ref 143), some (.ref 171), some (.int (zI i)), some (.int (zI k)), some (.int (zI b)), x7], [], es)) i_301_455 rfl ?_
  refine x0 (r := (1439, [some (.ref 7), some (.ref 64), some (.ref 143), some (.ref 171), some (.int (zI i)), some (.int (zI k)), some (.int (zI b)), x7], [], es)) i_301_457 rfl ?_
  refine x_iinc (x := i) i_301_1439 rfl (by show 4 < 8; decide) ?_
  show aW _ _ _ _ _ _ (1442, [some (.ref 7), some (.ref 64), some (.ref 143), some (.ref 171), some (.int (zI (i + 7))), some (.int (zI k)), some (.int (zI b)), x7], [], es)
  refine x0 (r := (23, [some (.ref 7), some (.ref 64), some (.ref 143), some (.ref 171), some (.int (zI (i + 7))), some (.int (zI k)), some (.int (zI b)), x7], [], es)) i_301_1442 rfl ?_
  exact K1
theorem lh_7 {xs : Nat → Int32} {n : Nat} (hn : n ≤ 3584) {i : Int} {es : PH} {kc ks : Nat} {x5 x6 x7 : Option Value} (h0 : 0 ≤ i) (h7 : i + 7 ≤ (n : Int)) (hT : hOK tT es) (hI : gInv es) (hJ : J es) (K : lawK J xs n i kc ks) : aW (pO0 xs n) 41 301 kc ks lawQ (432, lawL i x5 x6 x7, [], es) := by
  refine s_l7a (d := 41) (n0 := n) (xs := xs) (sh_of hT) ⟨h0, h7⟩ hn rfl (fun v1 e_v1 => ?_)
  have b_v1 : i32 v1 := by rw [e_v1]; exact i32_rng _
  have hJ0 := hJ
  obtain ⟨j_flag_, j_books_, j_booksI_⟩ := hJ0
  refine x_call (vs := [.ref 64, .int (zI v1), .ref 171]) (rs := []) i_301_440 rfl (fun _ => rfl) rfl rfl rfl rfl rfl rfl ?_
  show aW _ _ _ _ _ _ (0, [some (.ref 64), some (.int (zI v1)), some (.ref 171), none], [], es)
  refine aW_sh (aW_and (bs_281 hn (by decide) b_v1 hT hI) (fn_booky (O := pO0 xs n) (d := 37) b_v1 hT)) (fun r es1 c1 k1 hp => ?_)
  obtain ⟨⟨hT1, hI1, hf1, hc1, hk1⟩, hp1⟩ : (hOK tT es1 ∧ gInv es1 ∧ fr kc_382.2.2.2.2.2.1 es es1 ∧ c1 ≤ 1 ∧ k1 ≤ 6) ∧ bookyP v1 es r es1 := hp
  obtain ⟨hs1, -, k, rfl, hk⟩ := hp1
  have hkr : -2147483648 ≤ k ∧ k ≤ 2147483647 := by rcases hk with ⟨h, -⟩ | ⟨h, -⟩ | ⟨h, -⟩ <;> omega
  have hbk : gI es 7 5 = gA es 80 1 := j_books_
  have e80 : gA es1 80 1 = gA es 80 1 := keepA hf1 (sh_of hT) (p := 80) (t := 0) (n := 2125) (sp := tS80) rfl (by decide) (by decide) 1 (by omega)
  have hB0 : 0 ≤ (gI es 7 5).toInt ∧ (gI es 7 5).toInt ≤ 3 := gI_bd hT (p := 7) (b := 5) rfl rfl
  show aW _ _ _ _ _ _ (443, [some (.ref 7), some (.ref 64), some (.ref 143), some (.ref 171), some (.int (zI i)), x5, x6, x7], [.int (zI k)], es1)
  refine s_l7b (d := 41) (n0 := n) (xs := xs) (sh_of hT1) ⟨h0, h7⟩ hn rfl (fun wv1 e_wv1 => ?_)
  rw [show wv1 = v1 from by rw [e_wv1, e_v1]]
  refine x_call (vs := [.ref 143, .int (zI v1)]) (rs := []) i_301_452 rfl (fun _ => rfl) rfl rfl rfl rfl rfl (pCall_v (p := 79) (sh_of hT1) rfl rfl rfl rfl rfl (by decide) rfl rfl rfl rfl rfl) ?_
  show aW _ _ _ _ _ _ (0, [some (.ref 143), some (.int (zI v1)), none], [], es1)
  refine aW_sh (aW_and (bs_201 hn (by decide) b_v1 hT1 hI1) (fn_bookm (O := pO0 xs n) (d := 39) b_v1 hT1)) (fun r2 es2 c2 k2 hq => ?_)
  obtain ⟨⟨hT2, hI2, hf2, hc2, hk2⟩, hp2⟩ : (hOK tT es2 ∧ gInv es2 ∧ fr kc_332.2.2.2.2.2.1 es1 es2 ∧ c2 ≤ 0 ∧ k2 ≤ 0) ∧ bookmP v1 es1 r2 es2 := hq
  obtain ⟨hs2, -, b, rfl, hbr, hb⟩ := hp2
  rw [e80, ← hbk] at hb
  have hJ2 : J es2 := by
    have n_books : j_books es2 := by
      have a : gI es2 7 5 = gI es1 7 5 := keepI hf2 (sh_of hT1) (p := 7) (b := 5) rfl (by decide)
      show gI es2 7 5 = gA es2 80 1
      rw [a]
      apply Int32.toInt_inj.mp
      rcases hk with ⟨-, h, -, -, g1⟩ | ⟨-, h, -, -, g1⟩ | ⟨-, h, -, -, g1, -⟩
      · rcases hb with ⟨-, -, g2⟩ | ⟨-, -, g2⟩ | ⟨-, h', -⟩
        · rw [g1, g2, e80, ← hbk]
        · rw [g1, g2, e80, ← hbk]
        · exfalso; omega
      · rcases hb with ⟨-, -, g2⟩ | ⟨-, -, g2⟩ | ⟨-, h', -⟩
        · rw [g1, g2, e80, ← hbk]
        · rw [g1, g2, e80, ← hbk]
        · exfalso; omega
      · rcases hb with ⟨-, h', -⟩ | ⟨-, h', -⟩ | ⟨-, -, g2, -⟩
        · exfalso; omega
        · exfalso; omega
        · rw [g1, g2]
          unfold upd
          rw [if_pos (show (1 : Nat) = Int.toNat 1 from rfl), zI_toInt (by unfold i32 iLO iHI; omega)]
    exact ⟨kp_flag hf2 (sh_of hT1) (by decide) (kp_flag hf1 (sh_of hT) (by decide) j_flag_), n_books, kp_booksI hf2 (sh_of hT1) (by decide) (kp_booksI hf1 (sh_of hT) (by decide) j_booksI_)⟩
  have fin : ∀ y5 y6 y7, aW (pO0 xs n) 41 301 (kc + c1 + c2) (ks + k1 + k2) lawQ (23, lawL (i + 7) y5 y6 y7, [], es2) := fun y5 y6 y7 => K es2 _ _ y5 y6 y7 hT2 hI2 hJ2 (by omega) (by omega)
  show aW _ _ _ _ _ _ (455, [some (.ref 7), some (.ref 64), some (.ref 143), some (.ref 171), some (.int (zI i)), some (.int (zI k)), x6, x7], [.int (zI b)], es2)
  have t0 : (gI es2 79 0).toInt = k := by rcases hk with ⟨h, h', -⟩ | ⟨h, h', -⟩ | ⟨h, h', -⟩ <;> rcases hb with ⟨q, q', -⟩ | ⟨q, q', -⟩ | ⟨q, q', -⟩ <;> omega
  have t1 : k = 0 → (gJ es2 107 (Int.toNat 0)).toInt = b := by
    intro hk0
    have hj2 : gJ es2 107 (Int.toNat 0) = gJ es1 107 (Int.toNat 0) := keepJ hf2 (sh_of hT1) (p := 107) (n := 1) rfl (by decide) (Int.toNat 0) (by decide)
    rw [hj2]
    rcases hk with ⟨h, -⟩ | ⟨h, -⟩ | ⟨h, h', -, -, -, g1⟩
    · exfalso; omega
    · exfalso; omega
    · rcases hb with ⟨q, q', -⟩ | ⟨q, q', -⟩ | ⟨q, q', -, q1⟩
      · exfalso; omega
      · exfalso; omega
      · rw [g1, q1]
  exact s_l7c (O := pO0 xs n) (d := 41) (n0 := n) (xs := xs) (sh_of hT2) ⟨h0, h7⟩ hn rfl hkr hbr (fin _ _ _)
theorem s_l11a {O : pOut} {d kc ks : Nat} {Q : pRes → Prop} {es : PH} {xs : Nat → Int32} {n0 : Nat} {i : Int} {x5 x6 x7 : Option Value} (hs_es : sh es) (h_i : 0 ≤ i ∧ i + 7 ≤ (n0 : Int)) (hn0 : n0 ≤ 3584) (hO : O 7 = some (n0, xs))
    (K1 : ∀ v1 : Int, v1 = (xs (i + 1).toNat).toInt → ∀ v2 : Int, v2 = (xs (i + 2).toNat).toInt → ∀ v3 : Int, v3 = (xs (i + 3).toNat).toInt → ∀ v4 : Int, v4 = (xs (i + 4).toNat).toInt → aW O d 301 kc ks Q (704, [some (.ref 7), some (.ref 64), some (.ref 143), some (.ref 171), some (.int (zI i)), x5, x6, x7], [.ref 171, .int (zI v4), .int (zI v3), .int (zI v2), .int (zI v1), .ref 64], es)) :
    aW O d 301 kc ks Q (678, [some (.ref 7), some (.ref 64), some (.ref 143), some (.ref 171), some (.int (zI i)), x5, x6, x7], [], es) := by
  refine x0 (r := (679, [some (.ref 7), some (.ref 64), some (.ref 143), some (.ref 171), some (.int (zI i)), x5, x6, x7], [.ref 64], es)) i_301_678 rfl ?_
  refine x0 (r := (680, [some (.ref 7), some (.ref 64), some (.ref 143), some (.ref 171), some (.int (zI i)), x5, x6, x7], [.ref 7, .ref 64], es)) i_301_679 rfl ?_
  refine x0 (r := (682, [some (.ref 7), some (.ref 64), some (.ref 143), some (.ref 171), some (.int (zI i)), x5, x6, x7], [.int (zI i), .ref 7, .ref 64], es)) i_301_680 rfl ?_
  refine x0 (r := (683, [some (.ref 7), some (.ref 64), some (.ref 143), some (.ref 171), some (.int (zI i)), x5, x6, x7], [.int (zI 1), .int (zI i), .ref 7, .ref 64], es)) i_301_682 (by rfl) ?_
  refine x_iadd i_301_683 ?_
  refine x_oald (n := n0) (g := xs) i_301_684 hO (by unfold i32 iLO iHI; omega) (by omega) (by omega) ?_
  obtain ⟨v1, e_v1⟩ : ∃ z : Int, z = (xs (i + 1).toNat).toInt := ⟨_, rfl⟩
  rw [← e_v1]
  have r_v1 : iLO ≤ v1 ∧ v1 ≤ iHI := by rw [e_v1]; exact i32_rng _
  unfold iLO iHI at r_v1
  refine x0 (r := (686, [some (.ref 7), some (.ref 64), some (.ref 143), some (.ref 171), some (.int (zI i)), x5, x6, x7], [.ref 7, .int (zI v1), .ref 64], es)) i_301_685 rfl ?_
  refine x0 (r := (688, [some (.ref 7), some (.ref 64), some (.ref 143), some (.ref 171), some (.int (zI i)), x5, x6, x7], [.int (zI i), .ref 7, .int (zI v1), .ref 64], es)) i_301_686 rfl ?_
  refine x0 (r := (689, [some (.ref 7), some (.ref 64), some (.ref 143), some (.ref 171), some (.int (zI i)), x5, x6, x7], [.int (zI 2), .int (zI i), .ref 7, .int (zI v1), .ref 64], es)) i_301_688 (by rfl) ?_
  refine x_iadd i_301_689 ?_
  refine x_oald (n := n0) (g := xs) i_301_690 hO (by unfold i32 iLO iHI; omega) (by omega) (by omega) ?_
  obtain ⟨v2, e_v2⟩ : ∃ z : Int, z = (xs (i + 2).toNat).toInt := ⟨_, rfl⟩
  rw [← e_v2]
  have r_v2 : iLO ≤ v2 ∧ v2 ≤ iHI := by rw [e_v2]; exact i32_rng _
  unfold iLO iHI at r_v2
  refine x0 (r := (692, [some (.ref 7), some (.ref 64), some (.ref 143), some (.ref 171), some (.int (zI i)), x5, x6, x7], [.ref 7, .int (zI v2), .int (zI v1), .ref 64], es)) i_301_691 rfl ?_
  refine x0 (r := (694, [some (.ref 7), some (.ref 64), some (.ref 143), some (.ref 171), some (.int (zI i)), x5, x6, x7], [.int (zI i), .ref 7, .int (zI v2), .int (zI v1), .ref 64], es)) i_301_692 rfl ?_
  refine x0 (r := (695, [some (.ref 7), some (.ref 64), some (.ref 143), some (.ref 171), some (.int (zI i)), x5, x6, x7], [.int (zI 3), .int (zI i), .ref 7, .int (zI v2), .int (zI v1), .ref 64], es)) i_301_694 (by rfl) ?_
  refine x_iadd i_301_695 ?_
  refine x_oald (n := n0) (g := xs) i_301_696 hO (by unfold i32 iLO iHI; omega) (by omega) (by omega) ?_
  obtain ⟨v3, e_v3⟩ : ∃ z : Int, z = (xs (i + 3).toNat).toInt := ⟨_, rfl⟩
  rw [← e_v3]
  have r_v3 : iLO ≤ v3 ∧ v3 ≤ iHI := by rw [e_v3]; exact i32_rng _
  unfold iLO iHI at r_v3
  refine x0 (r := (698, [some (.ref 7), some (.ref 64), some (.ref 143), some (.ref 171), some (.int (zI i)), x5, x6, x7], [.ref 7, .int (zI v3), .int (zI v2), .int (zI v1), .ref 64], es)) i_301_697 rfl ?_
  refine x0 (r := (700, [some (.ref 7), some (.ref 64), some (.ref 143), some (.ref 171), some (.int (zI i)), x5, x6, x7], [.int (zI i), .ref 7, .int (zI v3), .int (zI v2), .int (zI v1), .ref 64], es)) i_301_698 rfl ?_
  refine x0 (r := (701, [some (.ref 7), some (.ref 64), some (.ref 143), some (.ref 171), some (.int (zI i)), x5, x6, x7], [.int (zI 4), .int (zI i), .ref 7, .int (zI v3), .int (zI v2), .int (zI v1), .ref 64], es)) i_301_700 (by rfl) ?_
  refine x_iadd i_301_701 ?_
  refine x_oald (n := n0) (g := xs) i_301_702 hO (by unfold i32 iLO iHI; omega) (by omega) (by omega) ?_
  obtain ⟨v4, e_v4⟩ : ∃ z : Int, z = (xs (i + 4).toNat).toInt := ⟨_, rfl⟩
  rw [← e_v4]
  have r_v4 : iLO ≤ v4 ∧ v4 ≤ iHI := by rw [e_v4]; exact i32_rng _
  unfold iLO iHI at r_v4
  refine x0 (r := (704, [some (.ref 7), some (.ref 64), some (.ref 143), some (.ref 171), some (.int (zI i)), x5, x6, x7], [.ref 171, .int (zI v4), .int (zI v3), .int (zI v2), .int (zI v1), .ref 64], es)) i_301_703 rfl ?_
  exact K1 v1 e_v1 v2 e_v2 v3 e_v3 v4 e_v4
theorem s_l11b {O : pOut} {d kc ks : Nat} {Q : pRes → Prop} {es : PH} {xs : Nat → Int32} {n0 : Nat} {i k : Int} {x5 x6 x7 : Option Value} (hs_es : sh es) (h_i : 0 ≤ i ∧ i + 7 ≤ (n0 : Int)) (hn0 : n0 ≤ 3584) (hO : O 7 = some (n0, xs))
    (K1 : ∀ v1 : Int, v1 = (xs (i + 1).toNat).toInt → ∀ v2 : Int, v2 = (xs (i + 2).toNat).toInt → ∀ v3 : Int, v3 = (xs (i + 3).toNat).toInt → ∀ v4 : Int, v4 = (xs (i + 4).toNat).toInt → aW O d 301 kc ks Q (734, [some (.ref 7), some (.ref 64), some (.ref 143), some (.ref 171), some (.int (zI i)), some (.int (zI k)), x6, x7], [.int (zI v4), .int (zI v3), .int (zI v2), .int (zI v1), .ref 143], es)) :
    aW O d 301 kc ks Q (707, [some (.ref 7), some (.ref 64), some (.ref 143), some (.ref 171), some (.int (zI i)), x5, x6, x7], [.int (zI k)], es) := by
  refine x0 (r := (709, [some (.ref 7), some (.ref 64), some (.ref 143), some (.ref 171), some (.int (zI i)), some (.int (zI k)), x6, x7], [], es)) i_301_707 rfl ?_
  refine x0 (r := (710, [some (.ref 7), some (.ref 64), some (.ref 143), some (.ref 171), some (.int (zI i)), some (.int (zI k)), x6, x7], [.ref 143], es)) i_301_709 rfl ?_
  refine x0 (r := (711, [some (.ref 7), some (.ref 64), some (.ref 143), some (.ref 171), some (.int (zI i)), some (.int (zI k)), x6, x7], [.ref 7, .ref 143], es)) i_301_710 rfl ?_
  refine x0 (r := (713, [some (.ref 7), some (.ref 64), some (.ref 143), some (.ref 171), some (.int (zI i)), some (.int (zI k)), x6, x7], [.int (zI i), .ref 7, .ref 143], es)) i_301_711 rfl ?_
  refine x0 (r := (714, [some (.ref 7), some (.ref 64), some (.ref 143), some (.ref 171), some (.int (zI i)), some (.int (zI k)), x6, x7], [.int (zI 1), .int (zI i), .ref 7, .ref 143], es)) i_301_713 (by rfl) ?_
  refine x_iadd i_301_714 ?_
  refine x_oald (n := n0) (g := xs) i_301_715 hO (by unfold i32 iLO iHI; omega) (by omega) (by omega) ?_
  obtain ⟨v1, e_v1⟩ : ∃ z : Int, z = (xs (i + 1).toNat).toInt := ⟨_, rfl⟩
  rw [← e_v1]
  have r_v1 : iLO ≤ v1 ∧ v1 ≤ iHI := by rw [e_v1]; exact i32_rng _
  unfold iLO iHI at r_v1
  refine x0 (r := (717, [some (.ref 7), some (.ref 64), some (.ref 143), some (.ref 171), some (.int (zI i)), some (.int (zI k)), x6, x7], [.ref 7, .int (zI v1), .ref 143], es)) i_301_716 rfl ?_
  refine x0 (r := (719, [some (.ref 7), some (.ref 64), some (.ref 143), some (.ref 171), some (.int (zI i)), some (.int (zI k)), x6, x7], [.int (zI i), .ref 7, .int (zI v1), .ref 143], es)) i_301_717 rfl ?_
  refine x0 (r := (720, [some (.ref 7), some (.ref 64), some (.ref 143), some (.ref 171), some (.int (zI i)), some (.int (zI k)), x6, x7], [.int (zI 2), .int (zI i), .ref 7, .int (zI v1), .ref 143], es)) i_301_719 (by rfl) ?_
  refine x_iadd i_301_720 ?_
  refine x_oald (n := n0) (g := xs) i_301_721 hO (by unfold i32 iLO iHI; omega) (by omega) (by omega) ?_
  obtain ⟨v2, e_v2⟩ : ∃ z : Int, z = (xs (i + 2).toNat).toInt := ⟨_, rfl⟩
  rw [← e_v2]
  have r_v2 : iLO ≤ v2 ∧ v2 ≤ iHI := by rw [e_v2]; exact i32_rng _
  unfold iLO iHI at r_v2
  refine x0 (r := (723, [some (.ref 7), some (.ref 64), some (.ref 143), some (.ref 171), some (.int (zI i)), some (.int (zI k)), x6, x7], [.ref 7, .int (zI v2), .int (zI v1), .ref 143], es)) i_301_722 rfl ?_
  refine x0 (r := (725, [some (.ref 7), some (.ref 64), some (.ref 143), some (.ref 171), some (.int (zI i)), some (.int (zI k)), x6, x7], [.int (zI i), .ref 7, .int (zI v2), .int (zI v1), .ref 143], es)) i_301_723 rfl ?_
  refine x0 (r := (726, [some (.ref 7), some (.ref 64), some (.ref 143), some (.ref 171), some (.int (zI i)), some (.int (zI k)), x6, x7], [.int (zI 3), .int (zI i), .ref 7, .int (zI v2), .int (zI v1), .ref 143], es)) i_301_725 (by rfl) ?_
  refine x_iadd i_301_726 ?_
  refine x_oald (n := n0) (g := xs) i_301_727 hO (by unfold i32 iLO iHI; omega) (by omega) (by omega) ?_
  obtain ⟨v3, e_v3⟩ : ∃ z : Int, z = (xs (i + 3).toNat).toInt := ⟨_, rfl⟩
  rw [← e_v3]
  have r_v3 : iLO ≤ v3 ∧ v3 ≤ iHI := by rw [e_v3]; exact i32_rng _
  unfold iLO iHI at r_v3
  refine x0 (r := (729, [some (.ref 7), some (.ref 64), some (.ref 143), some (.ref 171), some (.int (zI i)), some (.int (zI k)), x6, x7], [.ref 7, .int (zI v3), .int (zI v2), .int (zI v1), .ref 143], es)) i_301_728 rfl ?_
  refine x0 (r := (731, [some (.ref 7), some (.ref 64), some (.ref 143), some (.ref 171), some (.int (zI i)), some (.int (zI k)), x6, x7], [.int (zI i), .ref 7, .int (zI v3), .int (zI v2), .int (zI v1), .ref 143], es)) i_301_729 rfl ?_
  refine x0 (r := (732, [some (.ref 7), some (.ref 64), some (.ref 143), some (.ref 171), some (.int (zI i)), some (.int (zI k)), x6, x7], [.int (zI 4), .int (zI i), .ref 7, .int (zI v3), .int (zI v2), .int (zI v1), .ref 143], es)) i_301_731 (by rfl) ?_
  refine x_iadd i_301_732 ?_
  refine x_oald (n := n0) (g := xs) i_301_733 hO (by unfold i32 iLO iHI; omega) (by omega) (by omega) ?_
  obtain ⟨v4, e_v4⟩ : ∃ z : Int, z = (xs (i + 4).toNat).toInt := ⟨_, rfl⟩
  rw [← e_v4]
  have r_v4 : iLO ≤ v4 ∧ v4 ≤ iHI := by rw [e_v4]; exact i32_rng _
  unfold iLO iHI at r_v4
  exact K1 v1 e_v1 v2 e_v2 v3 e_v3 v4 e_v4
theorem s_l11c {O : pOut} {d kc ks : Nat} {Q : pRes → Prop} {es : PH} {xs : Nat → Int32} {n0 : Nat} {i k b : Int} {x6 x7 : Option Value} (hs_es : sh es) (h_i : 0 ≤ i ∧ i + 7 ≤ (n0 : Int)) (hn0 : n0 ≤ 3584) (hO : O 7 = some (n0, xs)) (h_k : -2147483648 ≤ k ∧ k ≤ 2147483647) (h_b : -2147483648 ≤ b ∧ b ≤ 2147483647)
    (K1 : ∀ v1 : Int, v1 = (gI es 79 0).toInt → v1 = k → k ≠ 0 → aW O (d + 1) 301 kc ks Q (23, [some (.ref 7), some (.ref 64), some (.ref 143), some (.ref 171), some (.int (zI (i + 7))), some (.int (zI k)), some (.int (zI b)), x7], [], es))
    (K2 : ∀ v1 : Int, v1 = (gI es 79 0).toInt → v1 = k → ¬ (k ≠ 0) → ∀ w4 : Int64, w4 = gJ es 107 (Int.toNat 0) → ∀ v5 : Int, v5 = sgn (w4.toInt - ((zI b).toInt64).toInt) → v5 = 0 → aW O (d + 1) 301 kc ks Q (23, [some (.ref 7), some (.ref 64), some (.ref 143), some (.ref 171), some (.int (zI (i + 7))), some (.int (zI k)), some (.int (zI b)), x7], [], es))
    (K3 : ∀ v1 : Int, v1 = (gI es 79 0).toInt → v1 = k → ¬ (k ≠ 0) → ∀ w4 : Int64, w4 = gJ es 107 (Int.toNat 0) → ∀ v5 : Int, v5 = sgn (w4.toInt - ((zI b).toInt64).toInt) → ¬ (v5 = 0) → Q (.inl (some (.int (zI 0))), es, kc, ks))
    (K4 : ∀ v1 : Int, v1 = (gI es 79 0).toInt → ¬ (v1 = k) → Q (.inl (some (.int (zI 0))), es, kc, ks)) :
    aW O (d + 1) 301 kc ks Q (737, [some (.ref 7), some (.ref 64), some (.ref 143), some (.ref 171), some (.int (zI i)), some (.int (zI k)), x6, x7], [.int (zI b)], es) := by
  refine x0 (r := (739, [some (.ref 7), some (.ref 64), some (.ref 143), some (.ref 171), some (.int (zI i)), some (.int (zI k)), some (.int (zI b)), x7], [], es)) i_301_737 rfl ?_
  refine x0 (r := (740, [some (.ref 7), some (.ref 64), some (.ref 143), some (.ref 171), some (.int (zI i)), some (.int (zI k)), some (.int (zI b)), x7], [.ref 143], es)) i_301_739 rfl ?_
  refine x_call (vs := [.ref 143]) (rs := []) i_301_740 rfl (fun _ => rfl) rfl rfl rfl rfl rfl (pCall_v (p := 79) hs_es rfl rfl rfl rfl rfl (by decide) rfl rfl rfl rfl rfl) ?_
  show aW _ _ _ _ _ _ (0, [some (.ref 143)], [], es)
  refine x0 (r := (1, [some (.ref 143)], [.ref 143], es)) i_167_0 rfl ?_
  refine x_geti (p := 79) i_167_1 hs_es rfl rfl ?_
  obtain ⟨v1, e_v1⟩ : ∃ z : Int, z = (gI es 79 0).toInt := ⟨_, rfl⟩
  rw [← e_v1]
  have r_v1 : iLO ≤ v1 ∧ v1 ≤ iHI := by rw [e_v1]; exact i32_rng _
  unfold iLO iHI at r_v1
  refine x_ret (v := some (.int (zI v1))) i_167_4 rfl (fun _ => rfl) rfl rfl rfl ?_
  show aW _ _ _ _ _ _ (743, [some (.ref 7), some (.ref 64), some (.ref 143), some (.ref 171), some (.int (zI i)), some (.int (zI k)), some (.int (zI b)), x7], [.int (zI v1)], es)
  refine x0 (r := (745, [some (.ref 7), some (.ref 64), some (.ref 143), some (.ref 171), some (.int (zI i)), some (.int (zI k)), some (.int (zI b)), x7], [.int (zI k), .int (zI v1)], es)) i_301_743 rfl ?_
  by_cases c2 : v1 = k
  · refine x_cmpT i_301_745 (by unfold i32 iLO iHI; omega) (by unfold i32 iLO iHI; omega) rfl (by simp only [zC, cR]; omega) ?_
    refine x0 (r := (752, [some (.ref 7), some (.ref 64), some (.ref 143), some (.ref 171), some (.int (zI i)), some (.int (zI k)), some (.int (zI b)), x7], [.int (zI k)], es)) i_301_750 rfl ?_
    by_cases c3 : k ≠ 0
    · refine x_ifT i_301_752 (by unfold i32 iLO iHI; omega) rfl (by simp only [zC, cR]; omega) ?_
      refine x0 (r := (1439, [some (.ref 7), some (.ref 64), some (.ref 143), some (.ref 171), some (.int (zI i)), some (.int (zI k)), some (.int (zI b)), x7], [], es)) i_301_767 rfl ?_
      refine x_iinc (x := i) i_301_1439 rfl (by show 4 < 8; decide) ?_
      show aW _ _ _ _ _ _ (1442, [some (.ref 7), some (.ref 64), some (.ref 143), some (.ref 171), some (.int (zI (i + 7))), some (.int (zI k)), some (.int (zI b)), x7], [], es)
      refine x0 (r := (23, [some (.ref 7), some (.ref 64), some (.ref 143), some (.ref 171), some (.int (zI (i + 7))), some (.int (zI k)), some (.int (zI b)), x7], [], es)) i_301_1442 rfl ?_
      exact K1 v1 e_v1 c2 c3
    · refine x_ifF i_301_752 (by unfold i32 iLO iHI; omega) rfl (by simp only [zC, cR]; omega) ?_
      refine x0 (r := (756, [some (.ref 7), some (.ref 64), some (.ref 143), some (.ref 171), some (.int (zI i)), some (.int (zI k)), some (.int (zI b)), x7], [.ref 171], es)) i_301_755 rfl ?_
      refine x0 (r := (757, [some (.ref 7), some (.ref 64), some (.ref 143), some (.ref 171), some (.int (zI i)), some (.int (zI k)), some (.int (zI b)), x7], [.int (zI 0), .ref 171], es)) i_301_756 (by rfl) ?_
      refine x_lald (p := 107) i_301_757 hs_es rfl (by unfold i32 iLO iHI; omega) (by omega) (by omega) ?_
      obtain ⟨w4, e_w4⟩ : ∃ z : Int64, z = gJ es 107 (Int.toNat 0) := ⟨_, rfl⟩
      rw [← e_w4]
      refine x0 (r := (760, [some (.ref 7), some (.ref 64), some (.ref 143), some (.ref 171), some (.int (zI i)), some (.int (zI k)), some (.int (zI b)), x7], [.int (zI b), .long w4], es)) i_301_758 rfl ?_
      refine x0 (r := (761, [some (.ref 7), some (.ref 64), some (.ref 143), some (.ref 171), some (.int (zI i)), some (.int (zI k)), some (.int (zI b)), x7], [.long ((zI b).toInt64), .long w4], es)) i_301_760 rfl ?_
      refine x_lcmp i_301_761 ?_
      obtain ⟨v5, e_v5⟩ : ∃ z : Int, z = sgn (w4.toInt - ((zI b).toInt64).toInt) := ⟨_, rfl⟩
      rw [← e_v5]
      have r_v5 : iLO ≤ v5 ∧ v5 ≤ iHI := by rw [e_v5]; exact sgn_i32
      unfold iLO iHI at r_v5
      by_cases c6 : v5 = 0
      · refine x_ifT i_301_762 (by unfold i32 iLO iHI; omega) rfl (by simp only [zC, cR]; omega) ?_
        refine x0 (r := (1439, [some (.ref 7), some (.ref 64), some (.ref 143), some (.ref 171), some (.int (zI i)), some (.int (zI k)), some (.int (zI b)), x7], [], es)) i_301_767 rfl ?_
        refine x_iinc (x := i) i_301_1439 rfl (by show 4 < 8; decide) ?_
        show aW _ _ _ _ _ _ (1442, [some (.ref 7), some (.ref 64), some (.ref 143), some (.ref 171), some (.int (zI (i + 7))), some (.int (zI k)), some (.int (zI b)), x7], [], es)
        refine x0 (r := (23, [some (.ref 7), some (.ref 64), some (.ref 143), some (.ref 171), some (.int (zI (i + 7))), some (.int (zI k)), some (.int (zI b)), x7], [], es)) i_301_1442 rfl ?_
        exact K2 v1 e_v1 c2 c3 w4 e_w4 v5 e_v5 c6
      · refine x_ifF i_301_762 (by unfold i32 iLO iHI; omega) rfl (by simp only [zC, cR]; omega) ?_
        refine x0 (r := (766, [some (.ref 7), some (.ref 64), some (.ref 143), some (.ref 171), some (.int (zI i)), some (.int (zI k)), some (.int (zI b)), x7], [.int (zI 0)], es)) i_301_765 (by rfl) ?_
        refine x_ret (v := some (.int (zI 0))) i_301_766 rfl (fun _ => rfl) rfl rfl (pFin_b (by omega)) ?_
        exact K3 v1 e_v1 c2 c3 w4 e_w4 v5 e_v5 c6
  · refine x_cmpF i_301_745 (by unfold i32 iLO iHI; omega) (by unfold i32 iLO iHI; omega) rfl (by simp only [zC, cR]; omega) ?_
    refine x0 (r := (749, [some (.ref 7), some (.ref 64), some (.ref 143), some (.ref 171), some (.int (zI i)), some (.int (zI k)), some (.int (zI b)), x7], [.int (zI 0)], es)) i_301_748 (by rfl) ?_
    refine x_ret (v := some (.int (zI 0))) i_301_749 rfl (fun _ => rfl) rfl rfl (pFin_b (by omega)) ?_
    exact K4 v1 e_v1 c2
theorem lh_11 {xs : Nat → Int32} {n : Nat} (hn : n ≤ 3584) {i : Int} {es : PH} {kc ks : Nat} {x5 x6 x7 : Option Value} (h0 : 0 ≤ i) (h7 : i + 7 ≤ (n : Int)) (hT : hOK tT es) (hI : gInv es) (hJ : J es) (K : lawK J xs n i kc ks) : aW (pO0 xs n) 41 301 kc ks lawQ (678, lawL i x5 x6 x7, [], es) := by
  refine s_l11a (d := 41) (n0 := n) (xs := xs) (sh_of hT) ⟨h0, h7⟩ hn rfl (fun v1 e_v1 v2 e_v2 v3 e_v3 v4 e_v4 => ?_)
  have b_v1 : i32 v1 := by rw [e_v1]; exact i32_rng _
  have b_v2 : i32 v2 := by rw [e_v2]; exact i32_rng _
  have b_v3 : i32 v3 := by rw [e_v3]; exact i32_rng _
  have b_v4 : i32 v4 := by rw [e_v4]; exact i32_rng _
  have hJ0 := hJ
  obtain ⟨j_flag_, j_books_, j_booksI_⟩ := hJ0
  refine x_call (vs := [.ref 64, .int (zI v1), .int (zI v2), .int (zI v3), .int (zI v4), .ref 171]) (rs := []) i_301_704 rfl (fun _ => rfl) rfl rfl rfl rfl rfl rfl ?_
  show aW _ _ _ _ _ _ (0, [some (.ref 64), some (.int (zI v1)), some (.int (zI v2)), some (.int (zI v3)), some (.int (zI v4)), some (.ref 171), none], [], es)
  refine aW_sh (aW_and (bs_285 hn (by decide) b_v1 b_v2 b_v3 b_v4 hT hI) (fn_writey (xs := xs) (n := n) (d := 30) hn b_v1 b_v2 b_v3 b_v4 hT)) (fun r es1 c1 k1 hp => ?_)
  obtain ⟨⟨hT1, hI1, hf1, hc1, hk1⟩, hp1⟩ : (hOK tT es1 ∧ gInv es1 ∧ fr kc_386.2.2.2.2.2.1 es es1 ∧ c1 ≤ 1 ∧ k1 ≤ 6) ∧ writeyP v1 v2 v3 v4 es r es1 := hp
  obtain ⟨hs1, -, k, rfl, hk⟩ := hp1
  have hkr : -2147483648 ≤ k ∧ k ≤ 2147483647 := by rcases hk with ⟨h, -⟩ | ⟨h, -⟩ | ⟨h, -⟩ <;> omega
  have hbk : gI es 7 5 = gA es 80 1 := j_books_
  have e80 : gA es1 80 1 = gA es 80 1 := keepA hf1 (sh_of hT) (p := 80) (t := 0) (n := 2125) (sp := tS80) rfl (by decide) (by decide) 1 (by omega)
  have hB0 : 0 ≤ (gI es 7 5).toInt ∧ (gI es 7 5).toInt ≤ 3 := gI_bd hT (p := 7) (b := 5) rfl rfl
  show aW _ _ _ _ _ _ (707, [some (.ref 7), some (.ref 64), some (.ref 143), some (.ref 171), some (.int (zI i)), x5, x6, x7], [.int (zI k)], es1)
  refine s_l11b (d := 41) (n0 := n) (xs := xs) (sh_of hT1) ⟨h0, h7⟩ hn rfl (fun wv1 e_wv1 wv2 e_wv2 wv3 e_wv3 wv4 e_wv4 => ?_)
  rw [show wv1 = v1 from by rw [e_wv1, e_v1]]
  rw [show wv2 = v2 from by rw [e_wv2, e_v2]]
  rw [show wv3 = v3 from by rw [e_wv3, e_v3]]
  rw [show wv4 = v4 from by rw [e_wv4, e_v4]]
  refine x_call (vs := [.ref 143, .int (zI v1), .int (zI v2), .int (zI v3), .int (zI v4)]) (rs := []) i_301_734 rfl (fun _ => rfl) rfl rfl rfl rfl rfl (pCall_v (p := 79) (sh_of hT1) rfl rfl rfl rfl rfl (by decide) rfl rfl rfl rfl rfl) ?_
  show aW _ _ _ _ _ _ (0, [some (.ref 143), some (.int (zI v1)), some (.int (zI v2)), some (.int (zI v3)), some (.int (zI v4)), none, none, none, none, none, none, none, none, none], [], es1)
  refine aW_sh (aW_and (bs_274 hn (by decide) b_v1 b_v2 b_v3 b_v4 hT1 hI1) (fn_writem (xs := xs) (n := n) (d' := 33) hn b_v1 b_v2 b_v3 b_v4 hT1 hI1)) (fun r2 es2 c2 k2 hq => ?_)
  obtain ⟨⟨hT2, hI2, hf2, hc2, hk2⟩, hp2⟩ : (hOK tT es2 ∧ gInv es2 ∧ fr kc_376.2.2.2.2.2.1 es1 es2 ∧ c2 ≤ 0 ∧ k2 ≤ 0) ∧ writemP v1 v2 v3 es1 r2 es2 := hq
  obtain ⟨hs2, b, rfl, hbr, hb⟩ := hp2
  rw [e80, ← hbk] at hb
  have hJ2 : J es2 := by
    have n_books : j_books es2 := by
      have a : gI es2 7 5 = gI es1 7 5 := keepI hf2 (sh_of hT1) (p := 7) (b := 5) rfl (by decide)
      show gI es2 7 5 = gA es2 80 1
      rw [a]
      apply Int32.toInt_inj.mp
      rcases hk with ⟨-, h, g1⟩ | ⟨-, h, g1⟩ | ⟨-, h, g1, -⟩
      · rcases hb with ⟨-, -, g2⟩ | ⟨-, -, g2⟩ | ⟨-, h', -⟩
        · rw [g1, g2]
        · rw [g1, g2]
        · exfalso; omega
      · rcases hb with ⟨-, -, g2⟩ | ⟨-, -, g2⟩ | ⟨-, h', -⟩
        · rw [g1, g2]
        · rw [g1, g2]
        · exfalso; omega
      · rcases hb with ⟨-, h', -⟩ | ⟨-, h', -⟩ | ⟨-, -, -, g2⟩
        · exfalso; omega
        · exfalso; omega
        · rw [g1, g2]
    exact ⟨kp_flag hf2 (sh_of hT1) (by decide) (kp_flag hf1 (sh_of hT) (by decide) j_flag_), n_books, kp_booksI hf2 (sh_of hT1) (by decide) (kp_booksI hf1 (sh_of hT) (by decide) j_booksI_)⟩
  have fin : ∀ y5 y6 y7, aW (pO0 xs n) 41 301 (kc + c1 + c2) (ks + k1 + k2) lawQ (23, lawL (i + 7) y5 y6 y7, [], es2) := fun y5 y6 y7 => K es2 _ _ y5 y6 y7 hT2 hI2 hJ2 (by omega) (by omega)
  show aW _ _ _ _ _ _ (737, [some (.ref 7), some (.ref 64), some (.ref 143), some (.ref 171), some (.int (zI i)), some (.int (zI k)), x6, x7], [.int (zI b)], es2)
  have t0 : (gI es2 79 0).toInt = k := by rcases hk with ⟨h, h', -⟩ | ⟨h, h', -⟩ | ⟨h, h', -⟩ <;> rcases hb with ⟨q, q', -⟩ | ⟨q, q', -⟩ | ⟨q, q', -⟩ <;> omega
  have t1 : k = 0 → (gJ es2 107 (Int.toNat 0)).toInt = b := by
    intro hk0
    have hj2 : gJ es2 107 (Int.toNat 0) = gJ es1 107 (Int.toNat 0) := keepJ hf2 (sh_of hT1) (p := 107) (n := 1) rfl (by decide) (Int.toNat 0) (by decide)
    rw [hj2]
    rcases hk with ⟨h, -⟩ | ⟨h, -⟩ | ⟨h, h', -, g1⟩
    · exfalso; omega
    · exfalso; omega
    · rcases hb with ⟨q, q', -⟩ | ⟨q, q', -⟩ | ⟨q, q', q1, -⟩
      · exfalso; omega
      · exfalso; omega
      · rw [g1, q1]
  exact s_l11c (O := pO0 xs n) (d := 40) (n0 := n) (xs := xs) (sh_of hT2) ⟨h0, h7⟩ hn rfl hkr hbr (fun v1 e_v1 c2 c3 => (fin _ _ _)) (fun v1 e_v1 c2 c3 w4 e_w4 v5 e_v5 c6 => (fin _ _ _)) (fun v1 e_v1 c2 c3 w4 e_w4 v5 e_v5 c6 => (absurd (show v5 = 0 by rw [e_v5, sgn_z, i2l_int hbr, e_w4]; have := t1 (by omega); omega) c6)) (fun v1 e_v1 c2 => (by exfalso; omega))
theorem s_l30a {O : pOut} {d kc ks : Nat} {Q : pRes → Prop} {es : PH} {xs : Nat → Int32} {n0 : Nat} {i : Int} {x5 x6 x7 : Option Value} (hs_es : sh es) (h_i : 0 ≤ i ∧ i + 7 ≤ (n0 : Int)) (hn0 : n0 ≤ 3584) (hO : O 7 = some (n0, xs))
    (K1 : aW O d 301 kc ks Q (1391, [some (.ref 7), some (.ref 64), some (.ref 143), some (.ref 171), some (.int (zI i)), x5, x6, x7], [.ref 64], es)) :
    aW O d 301 kc ks Q (1390, [some (.ref 7), some (.ref 64), some (.ref 143), some (.ref 171), some (.int (zI i)), x5, x6, x7], [], es) := by
  refine x0 (r := (1391, [some (.ref 7), some (.ref 64), some (.ref 143), some (.ref 171), some (.int (zI i)), x5, x6, x7], [.ref 64], es)) i_301_1390 rfl ?_
  exact K1
theorem s_l30b {O : pOut} {d kc ks : Nat} {Q : pRes → Prop} {es : PH} {xs : Nat → Int32} {n0 : Nat} {i : Int} {x5 x6 x7 : Option Value} (hs_es : sh es) (h_i : 0 ≤ i ∧ i + 7 ≤ (n0 : Int)) (hn0 : n0 ≤ 3584) (hO : O 7 = some (n0, xs))
    (K1 : aW O d 301 kc ks Q (1395, [some (.ref 7), some (.ref 64), some (.ref 143), some (.ref 171), some (.int (zI i)), x5, x6, x7], [.ref 143], es)) :
    aW O d 301 kc ks Q (1394, [some (.ref 7), some (.ref 64), some (.ref 143), some (.ref 171), some (.int (zI i)), x5, x6, x7], [], es) := by
  refine x0 (r := (1395, [some (.ref 7), some (.ref 64), some (.ref 143), some (.ref 171), some (.int (zI i)), x5, x6, x7], [.ref 143], es)) i_301_1394 rfl ?_
  exact K1
theorem s_l30c {O : pOut} {d kc ks : Nat} {Q : pRes → Prop} {es : PH} {xs : Nat → Int32} {n0 : Nat} {i : Int} {x5 x6 x7 : Option Value} (hs_es : sh es) (h_i : 0 ≤ i ∧ i + 7 ≤ (n0 : Int)) (hn0 : n0 ≤ 3584) (hO : O 7 = some (n0, xs))
    (K1 : aW O d 301 kc ks Q (23, [some (.ref 7), some (.ref 64), some (.ref 143), some (.ref 171), some (.int (zI (i + 7))), x5, x6, x7], [], es)) :
    aW O d 301 kc ks Q (1398, [some (.ref 7), some (.ref 64), some (.ref 143), some (.ref 171), some (.int (zI i)), x5, x6, x7], [], es) := by
  refine x0 (r := (1439, [some (.ref 7), some (.ref 64), some (.ref 143), some (.ref 171), some (.int (zI i)), x5, x6, x7], [], es)) i_301_1398 rfl ?_
  refine x_iinc (x := i) i_301_1439 rfl (by show 4 < 8; decide) ?_
  show aW _ _ _ _ _ _ (1442, [some (.ref 7), some (.ref 64), some (.ref 143), some (.ref 171), some (.int (zI (i + 7))), x5, x6, x7], [], es)
  refine x0 (r := (23, [some (.ref 7), some (.ref 64), some (.ref 143), some (.ref 171), some (.int (zI (i + 7))), x5, x6, x7], [], es)) i_301_1442 rfl ?_
  exact K1
theorem lh_30 {xs : Nat → Int32} {n : Nat} (hn : n ≤ 3584) {i : Int} {es : PH} {kc ks : Nat} {x5 x6 x7 : Option Value} (h0 : 0 ≤ i) (h7 : i + 7 ≤ (n : Int)) (hT : hOK tT es) (hI : gInv es) (hJ : J es) (K : lawK J xs n i kc ks) : aW (pO0 xs n) 41 301 kc ks lawQ (1390, lawL i x5 x6 x7, [], es) := by
  refine s_l30a (d := 41) (n0 := n) (xs := xs) (sh_of hT) ⟨h0, h7⟩ hn rfl ?_
  have hJ0 := hJ
  obtain ⟨j_flag_, j_books_, j_booksI_⟩ := hJ0
  refine x_call (vs := [.ref 64]) (rs := []) i_301_1391 rfl (fun _ => rfl) rfl rfl rfl rfl rfl (pCall_v (p := 0) (sh_of hT) rfl rfl rfl rfl rfl (by decide) rfl rfl rfl rfl rfl) ?_
  show aW _ _ _ _ _ _ (0, [some (.ref 64)], [], es)
  refine aW_sh (aW_and (bs_70 hn (by decide) hT hI) (fn_ximage (O := pO0 xs n) (d := 37) (sh_of hT))) (fun r es1 c1 k1 hp => ?_)
  obtain ⟨⟨hT1, hI1, hf1, hc1, hk1⟩, hp1⟩ : (hOK tT es1 ∧ gInv es1 ∧ fr kc_299.2.2.2.2.2.1 es es1 ∧ c1 ≤ 0 ∧ k1 ≤ 0) ∧ r = .inl none ∧ ximP es es1 := hp
  obtain ⟨rfl, hs1, x_f0, x_f5, x8, x9, x10, x11, x12, x13, x14, x15, x_fl⟩ := hp1
  show aW _ _ _ _ _ _ (1394, [some (.ref 7), some (.ref 64), some (.ref 143), some (.ref 171), some (.int (zI i)), x5, x6, x7], [], es1)
  refine s_l30b (d := 41) (n0 := n) (xs := xs) (sh_of hT1) ⟨h0, h7⟩ hn rfl ?_
  refine x_call (vs := [.ref 143]) (rs := []) i_301_1395 rfl (fun _ => rfl) rfl rfl rfl rfl rfl (pCall_v (p := 79) (sh_of hT1) rfl rfl rfl rfl rfl (by decide) rfl rfl rfl rfl rfl) ?_
  show aW _ _ _ _ _ _ (0, [some (.ref 143), none], [], es1)
  refine aW_sh (aW_and (bs_169 hn (by decide) hT1 hI1) (fn_mimage (O := pO0 xs n) (d := 40) hT1)) (fun r2 es2 c2 k2 hq => ?_)
  obtain ⟨⟨hT2, hI2, hf2, hc2, hk2⟩, hp2⟩ : (hOK tT es2 ∧ gInv es2 ∧ fr kc_406.2.2.2.2.2.1 es1 es2 ∧ c2 ≤ 0 ∧ k2 ≤ 0) ∧ r2 = .inl none ∧ hOK tT es2 ∧ fr frIm es1 es2 ∧ (∀ k, k < 1284 → gA es2 81 k = gA es1 80 k) ∧ gA es2 80 = gA es1 80 ∧ gI es2 79 3 = zI 1 := hq
  obtain ⟨rfl, -, g1, g2, g3, g4⟩ := hp2
  have hJ2 : J es2 := by
    have n_flag : j_flag es2 := by
      show gI es2 0 9 = gI es2 79 3
      rw [keepI g1 (sh_of hT1) (p := 0) (b := 9) rfl (by decide), x_fl, g4]
    have n_booksI : j_booksI es2 := by
      intro _
      rw [keepI hf2 (sh_of hT1) (p := 18) (b := 5) rfl (by decide), x_f5, g2 1 (by omega), keepA hf1 (sh_of hT) (p := 80) (t := 0) (n := 2125) (sp := tS80) rfl (by decide) (by decide) 1 (by omega)]
      exact j_books_
    exact ⟨n_flag, kp_books hf2 (sh_of hT1) (by decide) (kp_books hf1 (sh_of hT) (by decide) j_books_), n_booksI⟩
  have fin : ∀ y5 y6 y7, aW (pO0 xs n) 41 301 (kc + c1 + c2) (ks + k1 + k2) lawQ (23, lawL (i + 7) y5 y6 y7, [], es2) := fun y5 y6 y7 => K es2 _ _ y5 y6 y7 hT2 hI2 hJ2 (by omega) (by omega)
  show aW _ _ _ _ _ _ (1398, [some (.ref 7), some (.ref 64), some (.ref 143), some (.ref 171), some (.int (zI i)), x5, x6, x7], [], es2)
  exact s_l30c (O := pO0 xs n) (d := 41) (n0 := n) (xs := xs) (sh_of hT2) ⟨h0, h7⟩ hn rfl (fin _ _ _)
theorem s_l31a {O : pOut} {d kc ks : Nat} {Q : pRes → Prop} {es : PH} {xs : Nat → Int32} {n0 : Nat} {i : Int} {x5 x6 x7 : Option Value} (hs_es : sh es) (h_i : 0 ≤ i ∧ i + 7 ≤ (n0 : Int)) (hn0 : n0 ≤ 3584) (hO : O 7 = some (n0, xs))
    (K1 : aW O d 301 kc ks Q (1402, [some (.ref 7), some (.ref 64), some (.ref 143), some (.ref 171), some (.int (zI i)), x5, x6, x7], [.ref 64], es)) :
    aW O d 301 kc ks Q (1401, [some (.ref 7), some (.ref 64), some (.ref 143), some (.ref 171), some (.int (zI i)), x5, x6, x7], [], es) := by
  refine x0 (r := (1402, [some (.ref 7), some (.ref 64), some (.ref 143), some (.ref 171), some (.int (zI i)), x5, x6, x7], [.ref 64], es)) i_301_1401 rfl ?_
  exact K1
theorem s_l31b {O : pOut} {d kc ks : Nat} {Q : pRes → Prop} {es : PH} {xs : Nat → Int32} {n0 : Nat} {i k : Int} {x5 x6 x7 : Option Value} (hs_es : sh es) (h_i : 0 ≤ i ∧ i + 7 ≤ (n0 : Int)) (hn0 : n0 ≤ 3584) (hO : O 7 = some (n0, xs))
    (K1 : aW O d 301 kc ks Q (1407, [some (.ref 7), some (.ref 64), some (.ref 143), some (.ref 171), some (.int (zI i)), x5, x6, x7], [.ref 143], es)) :
    aW O d 301 kc ks Q (1405, [some (.ref 7), some (.ref 64), some (.ref 143), some (.ref 171), some (.int (zI i)), x5, x6, x7], [.int (zI k)], es) := by
  refine x0 (r := (1406, [some (.ref 7), some (.ref 64), some (.ref 143), some (.ref 171), some (.int (zI i)), x5, x6, x7], [], es)) i_301_1405 rfl ?_
  refine x0 (r := (1407, [some (.ref 7), some (.ref 64), some (.ref 143), some (.ref 171), some (.int (zI i)), x5, x6, x7], [.ref 143], es)) i_301_1406 rfl ?_
  exact K1
theorem s_l31c {O : pOut} {d kc ks : Nat} {Q : pRes → Prop} {es : PH} {xs : Nat → Int32} {n0 : Nat} {i b : Int} {x5 x6 x7 : Option Value} (hs_es : sh es) (h_i : 0 ≤ i ∧ i + 7 ≤ (n0 : Int)) (hn0 : n0 ≤ 3584) (hO : O 7 = some (n0, xs)) (h_b : -2147483648 ≤ b ∧ b ≤ 2147483647)
    (K1 : aW O d 301 kc ks Q (23, [some (.ref 7), some (.ref 64), some (.ref 143), some (.ref 171), some (.int (zI (i + 7))), x5, x6, x7], [], es)) :
    aW O d 301 kc ks Q (1410, [some (.ref 7), some (.ref 64), some (.ref 143), some (.ref 171), some (.int (zI i)), x5, x6, x7], [.int (zI b)], es) := by
  refine x0 (r := (1411, [some (.ref 7), some (.ref 64), some (.ref 143), some (.ref 171), some (.int (zI i)), x5, x6, x7], [], es)) i_301_1410 rfl ?_
  refine x0 (r := (1439, [some (.ref 7), some (.ref 64), some (.ref 143), some (.ref 171), some (.int (zI i)), x5, x6, x7], [], es)) i_301_1411 rfl ?_
  refine x_iinc (x := i) i_301_1439 rfl (by show 4 < 8; decide) ?_
  show aW _ _ _ _ _ _ (1442, [some (.ref 7), some (.ref 64), some (.ref 143), some (.ref 171), some (.int (zI (i + 7))), x5, x6, x7], [], es)
  refine x0 (r := (23, [some (.ref 7), some (.ref 64), some (.ref 143), some (.ref 171), some (.int (zI (i + 7))), x5, x6, x7], [], es)) i_301_1442 rfl ?_
  exact K1
theorem lh_31 {xs : Nat → Int32} {n : Nat} (hn : n ≤ 3584) {i : Int} {es : PH} {kc ks : Nat} {x5 x6 x7 : Option Value} (h0 : 0 ≤ i) (h7 : i + 7 ≤ (n : Int)) (hT : hOK tT es) (hI : gInv es) (hJ : J es) (K : lawK J xs n i kc ks) : aW (pO0 xs n) 41 301 kc ks lawQ (1401, lawL i x5 x6 x7, [], es) := by
  refine s_l31a (d := 41) (n0 := n) (xs := xs) (sh_of hT) ⟨h0, h7⟩ hn rfl ?_
  have hJ0 := hJ
  obtain ⟨j_flag_, j_books_, j_booksI_⟩ := hJ0
  refine x_call (vs := [.ref 64]) (rs := []) i_301_1402 rfl (fun _ => rfl) rfl rfl rfl rfl rfl (pCall_v (p := 0) (sh_of hT) rfl rfl rfl rfl rfl (by decide) rfl rfl rfl rfl rfl) ?_
  show aW _ _ _ _ _ _ (0, [some (.ref 64)], [], es)
  refine aW_sh (aW_and (bs_72 hn (by decide) hT hI) (fn_xback (O := pO0 xs n) (d := 37) hT)) (fun r es1 c1 k1 hp => ?_)
  obtain ⟨⟨hT1, hI1, hf1, hc1, hk1⟩, hp1⟩ : (hOK tT es1 ∧ gInv es1 ∧ fr kc_301.2.2.2.2.2.1 es es1 ∧ c1 ≤ 0 ∧ k1 ≤ 0) ∧ ((r = .inl (some (.int (zI 0))) ∧ (gI es 0 9).toInt = 0 ∧ es1 = es) ∨ (r = .inl (some (.int (zI 1))) ∧ ¬ (gI es 0 9).toInt = 0 ∧ xbaP es es1)) := hp
  have hk' : ∃ k : Int, r = .inl (some (.int (zI k))) ∧ ((k = 0 ∧ (gI es 0 9).toInt = 0 ∧ es1 = es) ∨ (k = 1 ∧ ¬ (gI es 0 9).toInt = 0 ∧ xbaP es es1)) := by
    rcases hp1 with ⟨q, q'⟩ | ⟨q, q'⟩
    · exact ⟨0, q, Or.inl ⟨rfl, q'⟩⟩
    · exact ⟨1, q, Or.inr (⟨rfl, q'⟩)⟩
  obtain ⟨k, rfl, hk⟩ := hk'
  have hkr : -2147483648 ≤ k ∧ k ≤ 2147483647 := by rcases hk with ⟨h, -⟩ | ⟨h, -⟩ <;> omega
  have e3 : gI es1 79 3 = gI es 79 3 := keepI hf1 (sh_of hT) (p := 79) (b := 3) rfl (by decide)
  have hfl : gI es 0 9 = gI es 79 3 := j_flag_
  show aW _ _ _ _ _ _ (1405, [some (.ref 7), some (.ref 64), some (.ref 143), some (.ref 171), some (.int (zI i)), x5, x6, x7], [.int (zI k)], es1)
  refine s_l31b (d := 41) (n0 := n) (xs := xs) (sh_of hT1) ⟨h0, h7⟩ hn rfl ?_
  refine x_call (vs := [.ref 143]) (rs := []) i_301_1407 rfl (fun _ => rfl) rfl rfl rfl rfl rfl (pCall_v (p := 79) (sh_of hT1) rfl rfl rfl rfl rfl (by decide) rfl rfl rfl rfl rfl) ?_
  show aW _ _ _ _ _ _ (0, [some (.ref 143), none], [], es1)
  refine aW_sh (aW_and (bs_170 hn (by decide) hT1 hI1) (fn_mback (O := pO0 xs n) (d := 40) hT1)) (fun r2 es2 c2 k2 hq => ?_)
  obtain ⟨⟨hT2, hI2, hf2, hc2, hk2⟩, hp2⟩ : (hOK tT es2 ∧ gInv es2 ∧ fr kc_407.2.2.2.2.2.1 es1 es2 ∧ c2 ≤ 0 ∧ k2 ≤ 0) ∧ hOK tT es2 ∧ fr frBa es1 es2 ∧ gA es2 81 = gA es1 81 ∧ ((r2 = .inl (some (.int (zI 0))) ∧ (gI es1 79 3).toInt = 0 ∧ gA es2 80 = gA es1 80) ∨ (r2 = .inl (some (.int (zI 1))) ∧ ¬ (gI es1 79 3).toInt = 0 ∧ ∀ k, k < 1284 → gA es2 80 k = gA es1 81 k)) := hq
  obtain ⟨-, g1, g2, hp3⟩ := hp2
  have hb' : ∃ b : Int, r2 = .inl (some (.int (zI b))) ∧ ((b = 0 ∧ (gI es1 79 3).toInt = 0 ∧ gA es2 80 = gA es1 80) ∨ (b = 1 ∧ ¬ (gI es1 79 3).toInt = 0 ∧ ∀ k, k < 1284 → gA es2 80 k = gA es1 81 k)) := by
    rcases hp3 with ⟨q, q'⟩ | ⟨q, q'⟩
    · exact ⟨0, q, Or.inl ⟨rfl, q'⟩⟩
    · exact ⟨1, q, Or.inr (⟨rfl, q'⟩)⟩
  obtain ⟨b, rfl, hb⟩ := hb'
  have hbr : -2147483648 ≤ b ∧ b ≤ 2147483647 := by rcases hb with ⟨h, -⟩ | ⟨h, -⟩ <;> omega
  rw [e3, ← hfl] at hb
  have hJ2 : J es2 := by
    have n_books : j_books es2 := by
      have a : gI es2 7 5 = gI es1 7 5 := keepI g1 (sh_of hT1) (p := 7) (b := 5) rfl (by decide)
      show gI es2 7 5 = gA es2 80 1
      rw [a]
      rcases hk with ⟨-, h, he⟩ | ⟨-, h, hx⟩
      · rcases hb with ⟨-, -, g3⟩ | ⟨-, h', -⟩
        · rw [g3, he]; exact j_books_
        · exact absurd h h'
      · rcases hb with ⟨-, h', -⟩ | ⟨-, -, g3⟩
        · exact absurd h' h
        · obtain ⟨-, x_f0, x_f5, x8, x9, x10, x11, x12, x13, x14, x15⟩ := hx
          have h3 : (gI es 79 3).toInt ≠ 0 := by rw [← hfl]; exact h
          rw [x_f5, g3 1 (by omega), keepA hf1 (sh_of hT) (p := 81) (t := 0) (n := 1284) (sp := tS81) rfl (by decide) (by decide) 1 (by omega)]; exact j_booksI_ h3
    exact ⟨kp_flag hf2 (sh_of hT1) (by decide) (kp_flag hf1 (sh_of hT) (by decide) j_flag_), n_books, kp_booksI hf2 (sh_of hT1) (by decide) (kp_booksI hf1 (sh_of hT) (by decide) j_booksI_)⟩
  have fin : ∀ y5 y6 y7, aW (pO0 xs n) 41 301 (kc + c1 + c2) (ks + k1 + k2) lawQ (23, lawL (i + 7) y5 y6 y7, [], es2) := fun y5 y6 y7 => K es2 _ _ y5 y6 y7 hT2 hI2 hJ2 (by omega) (by omega)
  show aW _ _ _ _ _ _ (1410, [some (.ref 7), some (.ref 64), some (.ref 143), some (.ref 171), some (.int (zI i)), x5, x6, x7], [.int (zI b)], es2)
  have t9 : k = b := by rcases hk with ⟨h, h', -⟩ | ⟨h, h', -⟩ <;> rcases hb with ⟨q, q', -⟩ | ⟨q, q', -⟩ <;> omega
  exact s_l31c (O := pO0 xs n) (d := 41) (n0 := n) (xs := xs) (sh_of hT2) ⟨h0, h7⟩ hn rfl hbr (fin _ _ _)
theorem lawHand_ok {xs : Nat → Int32} {n : Nat} (hn : n ≤ 3584) {c : Nat} {i : Int} {es : PH} {kc ks : Nat} {x5 x6 x7 : Option Value} (hc : c ∈ lawHand) (h0 : 0 ≤ i) (h7 : i + 7 ≤ (n : Int)) (hT : hOK tT es) (hI : gInv es) (hJ : J es) (K : lawK J xs n i kc ks) : aW (pO0 xs n) 41 301 kc ks lawQ (c, lawL i x5 x6 x7, [], es) := by
  rcases List.mem_cons.mp hc with rfl | hc
  · exact lh_7 hn h0 h7 hT hI hJ K
  rcases List.mem_cons.mp hc with rfl | hc
  · exact lh_11 hn h0 h7 hT hI hJ K
  rcases List.mem_cons.mp hc with rfl | hc
  · exact lh_30 hn h0 h7 hT hI hJ K
  rcases List.mem_cons.mp hc with rfl | hc
  · exact lh_31 hn h0 h7 hT hI hJ K
  cases hc
