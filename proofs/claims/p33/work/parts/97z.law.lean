/-! THE LAW, by the checker, with what is taped and whether there is an image; printed by wip/ai2/moreem.py -/
def lawCL : List aCon := [kc_409, kc_410, kc_420, kc_414, kc_421, kc_415, kc_53, kc_320, kc_380, kc_321, kc_381, kc_331, kc_382, kc_332, kc_383, kc_333, kc_384, kc_334, kc_385, kc_335, kc_386, kc_376, kc_387, kc_336, kc_388, kc_337, kc_389, kc_338, kc_168, kc_343, kc_169, kc_344, kc_390, kc_345, kc_391, kc_346, kc_392, kc_393, kc_394, kc_395, kc_396, kc_347, kc_397, kc_349, kc_281, kc_350, kc_398, kc_351, kc_399, kc_400, kc_401, kc_402, kc_403, kc_352, kc_404, kc_353, kc_405, kc_354, kc_416, kc_417, kc_418, kc_419, kc_305, kc_355]
def lawMo : List aMod := [(1, 3, 0, 1), (2, 0, 0, 400), (79, 2, 0, 1), (83, 0, 0, 5), (82, 0, 0, 400), (79, 7, 0, 1), (3, 4, 0, 1), (3, 5, 0, 1), (3, 6, 0, 1), (3, 9, 0, 1), (3, 10, 0, 1), (6, 0, 0, 401), (5, 0, 0, 401), (4, 0, 0, 400), (0, 10, 0, 1), (8, 0, 0, 5), (9, 0, 0, 5), (10, 0, 0, 60), (7, 2, 0, 1), (0, 12, 0, 1), (73, 5, 0, 1), (107, 0, 0, 1), (79, 9, 0, 1), (79, 8, 0, 1), (79, 14, 0, 1), (79, 10, 0, 1), (84, 0, 0, 12), (79, 12, 0, 1), (7, 15, 0, 1), (17, 0, 0, 400), (79, 11, 0, 1), (11, 0, 0, 36), (30, 0, 0, 36), (88, 0, 0, 40176), (12, 0, 0, 3), (13, 0, 0, 3), (7, 7, 0, 1), (14, 0, 0, 288), (79, 53, 0, 1), (87, 0, 0, 1116), (7, 12, 0, 1), (16, 0, 0, 30), (7, 13, 0, 1), (32, 2, 0, 1), (32, 3, 0, 1), (32, 4, 0, 1), (33, 0, 0, 3), (34, 0, 0, 8), (31, 9, 0, 1), (31, 10, 0, 1), (31, 18, 0, 1), (39, 3, 0, 1), (31, 11, 0, 1), (31, 17, 0, 1), (31, 20, 0, 1), (46, 0, 0, 36), (47, 4, 0, 1), (49, 0, 0, 93), (50, 0, 0, 93), (51, 0, 0, 93), (48, 0, 0, 2325), (31, 19, 0, 1), (38, 0, 0, 30), (37, 3, 0, 1), (37, 4, 0, 1), (36, 0, 0, 30), (35, 3, 0, 1), (35, 4, 0, 1), (40, 0, 0, 30), (39, 4, 0, 1), (31, 13, 0, 1), (31, 12, 0, 1), (43, 0, 0, 30), (41, 8, 0, 1), (41, 4, 0, 1), (41, 5, 0, 1), (41, 6, 0, 1), (41, 7, 0, 1), (41, 9, 0, 1), (41, 3, 0, 1), (42, 0, 0, 64), (44, 0, 1, 31), (79, 20, 0, 1), (89, 0, 0, 3), (90, 0, 0, 8), (79, 29, 0, 1), (79, 31, 0, 1), (79, 32, 0, 1), (79, 37, 0, 1), (79, 27, 0, 1), (79, 28, 0, 1), (79, 30, 0, 1), (79, 39, 0, 1), (79, 43, 0, 1), (79, 44, 0, 1), (79, 45, 0, 1), (79, 46, 0, 1), (91, 0, 0, 31), (92, 0, 0, 2232), (93, 0, 0, 2232), (94, 0, 0, 2325), (95, 0, 0, 31), (96, 0, 0, 24), (97, 0, 0, 24), (98, 0, 0, 30), (99, 0, 0, 30), (100, 0, 0, 30), (101, 0, 0, 31), (85, 0, 0, 6), (86, 0, 0, 400), (78, 0, 0, 36), (75, 0, 0, 90), (74, 0, 0, 72), (76, 0, 0, 30), (79, 38, 0, 1), (102, 0, 0, 24), (103, 0, 0, 30), (53, 2, 0, 1), (53, 3, 0, 1), (53, 4, 0, 1), (54, 0, 0, 3), (55, 0, 0, 8), (52, 18, 0, 1), (52, 19, 0, 1), (52, 17, 0, 1), (52, 20, 0, 1), (67, 0, 0, 36), (68, 4, 0, 1), (70, 0, 0, 93), (71, 0, 0, 93), (72, 0, 0, 93), (69, 0, 0, 2325), (59, 0, 0, 30), (58, 3, 0, 1), (58, 4, 0, 1), (57, 0, 0, 30), (56, 3, 0, 1), (56, 4, 0, 1), (61, 0, 0, 30), (60, 3, 0, 1), (60, 4, 0, 1), (52, 13, 0, 1), (52, 12, 0, 1), (64, 0, 0, 30), (62, 8, 0, 1), (62, 4, 0, 1), (62, 5, 0, 1), (62, 6, 0, 1), (62, 7, 0, 1), (62, 9, 0, 1), (62, 3, 0, 1), (63, 0, 0, 64), (65, 0, 1, 31), (31, 21, 0, 1), (104, 0, 0, 24), (105, 0, 0, 30), (106, 0, 0, 625), (52, 9, 0, 1), (52, 10, 0, 1), (52, 11, 0, 1), (18, 2, 0, 1), (19, 0, 0, 5), (20, 0, 0, 5), (21, 0, 0, 60), (22, 0, 0, 36), (18, 7, 0, 1), (23, 0, 0, 3), (24, 0, 0, 3), (25, 0, 0, 288), (26, 0, 0, 8), (18, 12, 0, 1), (18, 13, 0, 1), (27, 0, 0, 30), (18, 15, 0, 1), (28, 0, 0, 400), (0, 11, 0, 1), (79, 5, 0, 1), (81, 0, 0, 1284), (15, 0, 0, 8), (80, 0, 0, 2125)]
def lawA : List aV := [(1, fC 7), (1, fC 64), (1, fC 143), (1, fC 171), (0, fV 1), aX, aX, aX]
def lawE : aE := [(.ofNat 0, .ofNat 3584), (.ofNat 0, .ofNat 3591), (.ofNat 0, .ofNat 400), (.ofNat 0, .ofNat 1)]
def lawF : List aFt := [(7, 1, (.ofNat 0, []), (.ofNat 0, [(.ofNat 1, 0)])), (1, 3, (.ofNat 0, []), (.ofNat 0, [(.ofNat 1, 2)])), (79, 7, (.ofNat 0, []), (.ofNat 0, [(.ofNat 1, 2)])), (0, 11, (.ofNat 0, []), (.ofNat 0, [(.ofNat 1, 3)])), (79, 5, (.ofNat 0, []), (.ofNat 0, [(.ofNat 1, 3)]))]
def lawS : aSS := (((lawE, []), 23, lawA, []), lawF)
def lawF7 : aF := (.ofNat 7, [(.ofNat 1, 1)])
/-- what can't be: a form that is at least 0 is below it -/
def lawNo (e : aE) (cs : List aF) : Bool := cs.any (fun k => iLe (pHi e cs k) (.negSucc 0))
def lawEnd (r : aRes) : Bool := match r with
  | (0, (((e, cs), pc, A, st), F), kc, ks) => lawNo e cs || (Nat.beq pc 23 && (st.isEmpty && (aMat 1 lawE [] lawA lawF e cs A F (fun θ => θ.getD 1 (fC 0) == lawF7) && (Nat.ble kc 1 && Nat.ble ks 25))))
  | (1, (((e, cs), _, _, st), _), kc, ks) => lawNo e cs || ((match st with
    | [v] => v == (0, fC 1)
    | _ => false) && (Nat.ble kc 1 && Nat.ble ks 25))
  | _ => false
def lawCases : List Nat := [188, 261, 286, 314, 330, 343, 392, 432, 460, 536, 626, 678, 742, 782, 807, 871, 884, 897, 925, 953, 993, 1033, 1061, 1089, 1102, 1130, 1198, 1266, 1306, 1334, 1362, 1373, 1386]
/-- as far as the cases of the switch, and from each on to the loop's head -/
def lawRun1 (row : pMrow) : Option (List aRes) := aRun gG lawCL gInl2 (lawMo.filter (mFree gProt)) lawMo 1000000 41 301 row (fun pc => pc == 23 || lawCases.any (fun q => pc == q)) 0 0 lawS
def lawRun2 (row : pMrow) (S : aSS) : Option (List aRes) := aRun gG lawCL gInl2 (lawMo.filter (mFree gProt)) lawMo 1000000 41 301 row (fun pc => pc == 23) 0 0 S
def lawG (row : pMrow) (r : aRes) : Bool := bif Nat.beq r.1 0 && !(Nat.beq r.2.1.1.2.1 23) then (Nat.beq r.2.2.1 0 && Nat.beq r.2.2.2 0) && (match lawRun2 row r.2.1 with
    | some R => R.all lawEnd
    | none => false) else lawEnd r
def lawPart (k : Nat) : Bool := match pM[301]? with
  | some row => (match lawRun1 row with
    | some R => ((R.drop (3 * k)).take 3).all (lawG row)
    | none => false)
  | none => false
def lawLen : Bool := match pM[301]? with
  | some row => (match lawRun1 row with
    | some R => Nat.ble R.length 36
    | none => false)
  | none => false
theorem lawLen_ok : lawLen = true := by decide +kernel
theorem lawCL_ok {xs : Nat → Int32} {n : Nat} (hn : n ≤ 3584) : ∀ c ∈ lawCL, conOK (pO0 xs n) gG gInv c := by
  have w := aWd_I (xs := xs) hn
  have h364 : conOK (pO0 xs n) gG gInv kc_364 := hm_measured
  have h365 : conOK (pO0 xs n) gG gInv kc_365 := kv_365 w h364
  have hm_287 : conOK (pO0 xs n) gG gInv kc_287 := hm_common
  have hm_292 : conOK (pO0 xs n) gG gInv kc_292 := hm_alike hn
  have hm_306 : conOK (pO0 xs n) gG gInv kc_306 := hm_cwrite hn
  have hm_321 : conOK (pO0 xs n) gG gInv kc_321 := hm_put
  have hm_323 : conOK (pO0 xs n) gG gInv kc_323 := hm_off
  have hm_340 : conOK (pO0 xs n) gG gInv kc_340 := hm_laysAll h365
  have hm_376 : conOK (pO0 xs n) gG gInv kc_376 := hm_write hn
  have hm_393 : conOK (pO0 xs n) gG gInv kc_393 := hm_slip h365
  have hm_395 : conOK (pO0 xs n) gG gInv kc_395 := hm_slips h365
  have hm_400 : conOK (pO0 xs n) gG gInv kc_400 := hm_odds h365
  have hm_402 : conOK (pO0 xs n) gG gInv kc_402 := hm_shared h365
  have hm_414 : conOK (pO0 xs n) gG gInv kc_414 := hm_kindT hn
  have hm_415 : conOK (pO0 xs n) gG gInv kc_415 := hm_measureT (words_ok (aWd_T hn))
  have hm_417 : conOK (pO0 xs n) gG gInv kc_417 := hm_imageH
  have hm_419 : conOK (pO0 xs n) gG gInv kc_419 := hm_backH
  exact cl_cons (kv_409 w) (cl_cons (kv_410 w) (cl_cons (kv_420 w) (cl_cons (hm_414) (cl_cons (kv_421 w) (cl_cons (hm_415) (cl_cons (kv_53 w) (cl_cons (kv_320 w) (cl_cons (kv_380 w) (cl_cons (hm_321) (cl_cons (kv_381 w) (cl_cons (kv_331 w hm_323) (cl_cons (kv_382 w) (cl_cons (kv_332 w) (cl_cons (kv_383 w) (cl_cons (kv_333 w) (cl_cons (kv_384 w) (cl_cons (kv_334 w) (cl_cons (kv_385 w) (cl_cons (kv_335 w) (cl_cons (kv_386 w hm_306) (cl_cons (hm_376) (cl_cons (kv_387 w) (cl_cons (kv_336 w) (cl_cons (kv_388 w) (cl_cons (kv_337 w) (cl_cons (kv_389 w) (cl_cons (kv_338 w) (cl_cons (kv_168 w) (cl_cons (kv_343 w hm_340) (cl_cons (kv_169 w) (cl_cons (kv_344 w hm_340) (cl_cons (kv_390 w) (cl_cons (kv_345 w hm_340) (cl_cons (kv_391 w) (cl_cons (kv_346 w hm_340) (cl_cons (kv_392 w) (cl_cons (hm_393) (cl_cons (kv_394 w) (cl_cons (hm_395) (cl_cons (kv_396 w) (cl_cons (kv_347 w hm_340) (cl_cons (kv_397 w) (cl_cons (kv_349 w hm_323 hm_340) (cl_cons (kv_281 w) (cl_cons (kv_350 w hm_340) (cl_cons (kv_398 w) (cl_cons (kv_351 w hm_340) (cl_cons (kv_399 w hm_287) (cl_cons (hm_400) (cl_cons (kv_401 w) (cl_cons (hm_402) (cl_cons (kv_403 w hm_292) (cl_cons (kv_352 w) (cl_cons (kv_404 w) (cl_cons (kv_353 w hm_340) (cl_cons (kv_405 w) (cl_cons (kv_354 w hm_340) (cl_cons (kv_416 w) (cl_cons (hm_417) (cl_cons (kv_418 w) (cl_cons (hm_419) (cl_cons (kv_305 w) (cl_cons (kv_355 w hm_340) (cl_nil))))))))))))))))))))))))))))))))))))))))))))))))))))))))))))))))
