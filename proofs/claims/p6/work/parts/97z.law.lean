/-! THE LAW'S LOOP, by the checker but for the cases by hand; printed by wip/rel/lawj.py -/
def lawA : List aV := [(1, fC 7), (1, fC 64), (1, fC 143), (1, fC 171), (0, fV 1), aX, aX, aX]
def lawS : aSS := ((([(.ofNat 0, .ofNat 3584), (.ofNat 0, .ofNat 3591)], []), 23, lawA, []), [(7, 1, fC 0, fV 0)])
def lawF7 : aF := (.ofNat 7, [(.ofNat 1, 1)])
def lawEnd (r : aRes) : Bool := match r with
  | (0, (((e, cs), pc, A, st), _), kc, ks) => Nat.beq pc 23 && (st.isEmpty && ((match A with
    | [a0, a1, a2, a3, a4, _, _, _] => a0 == (1, fC 7) && (a1 == (1, fC 64) && (a2 == (1, fC 143) && (a3 == (1, fC 171) && a4 == (0, lawF7))))
    | _ => false) && (iLe (pHi e cs lawF7) (.ofNat 3591) && (Nat.ble kc 1 && Nat.ble ks 25))))
  | (1, ((_, _, _, st), _), kc, ks) => (match st with
    | [v] => v == (0, fC 1)
    | _ => false) && (Nat.ble kc 1 && Nat.ble ks 25)
  | _ => false
def lawCases : List Nat := [188, 261, 286, 314, 330, 343, 392, 432, 460, 536, 626, 678, 742, 782, 807, 871, 884, 897, 925, 953, 993, 1033, 1061, 1089, 1102, 1130, 1198, 1266, 1306, 1334, 1362, 1373, 1386]
/-- the cases by hand -/
def lawHand : List Nat := [188, 261, 286, 314, 330, 1362, 1373]
/-- the cells of the relation -/
def jProt : List aMod := [(2, 0, 0, 400), (82, 0, 0, 400), (1, 3, 0, 1), (79, 7, 0, 1), (0, 11, 0, 1), (79, 5, 0, 1), (7, 2, 0, 1), (80, 0, 0, 1), (18, 2, 0, 1), (81, 0, 0, 1), (0, 10, 0, 1), (79, 12, 0, 1)]
def lawMoJ : List aMod := [(79, 2, 0, 1), (83, 0, 0, 5), (3, 4, 0, 1), (3, 5, 0, 1), (3, 6, 0, 1), (3, 9, 0, 1), (3, 10, 0, 1), (6, 0, 0, 401), (5, 0, 0, 401), (4, 0, 0, 400), (8, 0, 0, 5), (9, 0, 0, 5), (10, 0, 0, 60), (0, 12, 0, 1), (73, 5, 0, 1), (107, 0, 0, 1), (79, 9, 0, 1), (79, 8, 0, 1), (79, 14, 0, 1), (79, 10, 0, 1), (84, 0, 0, 12), (7, 15, 0, 1), (17, 0, 0, 400), (79, 11, 0, 1), (11, 0, 0, 36), (30, 0, 0, 36), (88, 0, 0, 40176), (12, 0, 0, 3), (13, 0, 0, 3), (7, 7, 0, 1), (14, 0, 0, 288), (79, 53, 0, 1), (87, 0, 0, 1116), (7, 12, 0, 1), (16, 0, 0, 30), (7, 13, 0, 1), (32, 2, 0, 1), (32, 3, 0, 1), (32, 4, 0, 1), (33, 0, 0, 3), (34, 0, 0, 8), (31, 9, 0, 1), (31, 10, 0, 1), (31, 18, 0, 1), (39, 3, 0, 1), (31, 11, 0, 1), (31, 17, 0, 1), (31, 20, 0, 1), (46, 0, 0, 36), (47, 4, 0, 1), (49, 0, 0, 93), (50, 0, 0, 93), (51, 0, 0, 93), (48, 0, 0, 2325), (31, 19, 0, 1), (38, 0, 0, 30), (37, 3, 0, 1), (37, 4, 0, 1), (36, 0, 0, 30), (35, 3, 0, 1), (35, 4, 0, 1), (40, 0, 0, 30), (39, 4, 0, 1), (31, 13, 0, 1), (31, 12, 0, 1), (43, 0, 0, 30), (41, 8, 0, 1), (41, 4, 0, 1), (41, 5, 0, 1), (41, 6, 0, 1), (41, 7, 0, 1), (41, 9, 0, 1), (41, 3, 0, 1), (42, 0, 0, 64), (44, 0, 1, 31), (79, 20, 0, 1), (89, 0, 0, 3), (90, 0, 0, 8), (79, 29, 0, 1), (79, 31, 0, 1), (79, 32, 0, 1), (79, 37, 0, 1), (79, 27, 0, 1), (79, 28, 0, 1), (79, 30, 0, 1), (79, 39, 0, 1), (79, 43, 0, 1), (79, 44, 0, 1), (79, 45, 0, 1), (79, 46, 0, 1), (91, 0, 0, 31), (92, 0, 0, 2232), (93, 0, 0, 2232), (94, 0, 0, 2325), (95, 0, 0, 31), (96, 0, 0, 24), (97, 0, 0, 24), (98, 0, 0, 30), (99, 0, 0, 30), (100, 0, 0, 30), (101, 0, 0, 31), (85, 0, 0, 6), (86, 0, 0, 400), (78, 0, 0, 36), (75, 0, 0, 90), (74, 0, 0, 72), (76, 0, 0, 30), (79, 38, 0, 1), (102, 0, 0, 24), (103, 0, 0, 30), (53, 2, 0, 1), (53, 3, 0, 1), (53, 4, 0, 1), (54, 0, 0, 3), (55, 0, 0, 8), (52, 18, 0, 1), (52, 19, 0, 1), (52, 17, 0, 1), (52, 20, 0, 1), (67, 0, 0, 36), (68, 4, 0, 1), (70, 0, 0, 93), (71, 0, 0, 93), (72, 0, 0, 93), (69, 0, 0, 2325), (59, 0, 0, 30), (58, 3, 0, 1), (58, 4, 0, 1), (57, 0, 0, 30), (56, 3, 0, 1), (56, 4, 0, 1), (61, 0, 0, 30), (60, 3, 0, 1), (60, 4, 0, 1), (52, 13, 0, 1), (52, 12, 0, 1), (64, 0, 0, 30), (62, 8, 0, 1), (62, 4, 0, 1), (62, 5, 0, 1), (62, 6, 0, 1), (62, 7, 0, 1), (62, 9, 0, 1), (62, 3, 0, 1), (63, 0, 0, 64), (65, 0, 1, 31), (31, 21, 0, 1), (104, 0, 0, 24), (105, 0, 0, 30), (106, 0, 0, 625), (52, 9, 0, 1), (52, 10, 0, 1), (52, 11, 0, 1), (19, 0, 0, 5), (20, 0, 0, 5), (21, 0, 0, 60), (22, 0, 0, 36), (18, 7, 0, 1), (23, 0, 0, 3), (24, 0, 0, 3), (25, 0, 0, 288), (26, 0, 0, 8), (18, 12, 0, 1), (18, 13, 0, 1), (27, 0, 0, 30), (18, 15, 0, 1), (28, 0, 0, 400), (81, 0, 1, 1284), (15, 0, 0, 8), (80, 0, 1, 2125)]
/-- as far as the cases of the switch, and from each on to the loop's head -/
def lawRun1 (row : pMrow) : Option (List aRes) := aRun gG lawCL gInl (lawMoJ.filter (mFree gProt)) lawMoJ 1000000 41 301 row (fun pc => pc == 23 || lawCases.any (fun q => pc == q)) 0 0 lawS
def lawRun2 (row : pMrow) (S : aSS) : Option (List aRes) := aRun gG lawCL gInl (lawMoJ.filter (mFree gProt)) lawMoJ 1000000 41 301 row (fun pc => pc == 23) 0 0 S
def lawAvs (A : List aV) : Bool := match A with
    | [a0, a1, a2, a3, a4, _, _, _] => a0 == (1, fC 7) && (a1 == (1, fC 64) && (a2 == (1, fC 143) && (a3 == (1, fC 171) && a4 == (0, fV 1))))
    | _ => false
/-- what a case by hand begins with -/
def lawAt (r : aRes) : Bool := r.2.1.1.2.2.2.isEmpty && (lawAvs r.2.1.1.2.2.1 && (iLe 0 (pLo r.2.1.1.1.1 r.2.1.1.1.2 (fV 1)) && iLe (pHi r.2.1.1.1.1 r.2.1.1.1.2 (fAdd (-1) (fV 1) (fV 0))) (-7)))
def lawG (row : pMrow) (r : aRes) : Bool := bif Nat.beq r.1 0 && !(Nat.beq r.2.1.1.2.1 23) then (Nat.beq r.2.2.1 0 && Nat.beq r.2.2.2 0) && (bif lawHand.any (fun q => q == r.2.1.1.2.1) then lawAt r else (match lawRun2 row r.2.1 with
    | some R => R.all lawEnd
    | none => false)) else lawEnd r
def lawPart (k : Nat) : Bool := match pM[301]? with
  | some row => (match lawRun1 row with
    | some R => ((R.drop (3 * k)).take 3).all (lawG row)
    | none => false)
  | none => false
def lawLen : Bool := match pM[301]? with
  | some row => (match lawRun1 row with
    | some R => Nat.ble R.length 36
    | none => false)
  | none => false
theorem lawLen_ok : lawLen = true := by decide +kernel
def lawQ (o : pRes) : Prop := o.1 = .inl (some (.int 1)) ∧ o.2.2.1 ≤ 601024 ∧ o.2.2.2 ≤ 7293034
abbrev lawL (i : Int) (x5 x6 x7 : Option Value) : PL := [some (.ref 7), some (.ref 64), some (.ref 143), some (.ref 171), some (.int (zI i)), x5, x6, x7]
/-- what a case by hand goes on with -/
def lawK (J : PH → Prop) (xs : Nat → Int32) (n : Nat) (i : Int) (kc ks : Nat) : Prop := ∀ (es' : PH) (kc' ks' : Nat) (x5 x6 x7 : Option Value), hOK tT es' → gInv es' → J es' → kc' ≤ kc + 1 → ks' ≤ ks + 25 → aW (pO0 xs n) 41 301 kc' ks' lawQ (23, lawL (i + 7) x5 x6 x7, [], es')
