/-! THE TABLE: what the heap holds behind the two constructors -/
def tAny : Nat → Int × Int := fun _ => (iLO, iHI)
def tS80 : Nat → Int × Int := fun k =>
  bif Nat.blt k 5 then (bif k == 0 then (.ofNat 0, .ofNat 5) else bif k == 1 then (.ofNat 0, .ofNat 3) else bif k == 2 then (.ofNat 0, .ofNat 10) else bif k == 3 then (.negSucc 0, .ofNat 30) else (.ofNat 0, .ofNat 1)) else
  bif Nat.blt k 13 then (.ofNat 0, .ofNat 9) else bif Nat.blt k 49 then (.negSucc 0, .ofNat 9) else
  bif Nat.blt k 119 then (match (k - 49) % 14 with
    | m => bif m == 0 then (.ofNat 0, .ofNat 20) else bif m == 1 then (.ofNat 0, .ofNat 6) else (.negSucc 0, .ofNat 5)) else
  bif Nat.blt k 413 then (match (k - 119) % 98 with
    | m => bif m == 0 then (.ofNat 0, .ofNat 1) else bif m == 1 then (.ofNat 0, .ofNat 24) else match (m - 2) % 4 with
      | r => bif r == 0 then (.ofNat 0, .ofNat 4) else bif r == 1 then (.negSucc 0, .ofNat 5) else bif r == 2 then (.negSucc 5, .ofNat 7) else (.negSucc 6, .ofNat 12)) else
  bif Nat.blt k 443 then (match (k - 413) % 3 with
    | r => bif r == 0 then (.ofNat 0, .ofNat 30) else bif r == 1 then (.ofNat 0, .ofNat 35) else (.negSucc 0, .ofNat 9)) else
  match (k - 443) % 841 with
    | m => bif m == 0 then (.ofNat 0, .ofNat 10) else bif Nat.blt m 41 then (match (m - 1) % 4 with
      | r => bif r == 0 then (.negSucc 0, .ofNat 999) else bif r == 1 then (.negSucc 0, .ofNat 3) else bif r == 2 then (.ofNat 0, .ofNat 400) else (.ofNat 0, .ofNat 400)) else bif (m - 41) % 2 == 0 then (.negSucc 0, .ofNat 12) else (.negSucc 0, .ofNat 999)
def tS81 : Nat → Int × Int := tS80
def tT : List tE := [
  .inr (11, [(1, .ofNat 65, .ofNat 0), (1, .ofNat 67, .ofNat 0), (1, .ofNat 71, .ofNat 0), (1, .ofNat 82, .ofNat 0), (1, .ofNat 93, .ofNat 0), (1, .ofNat 95, .ofNat 0), (1, .ofNat 116, .ofNat 0), (1, .ofNat 137, .ofNat 0), (0, .negSucc 2147483647, .ofNat 2147483647), (0, .ofNat 0, .ofNat 1), (0, .ofNat 0, .ofNat 1)]),
  .inr (8, [(1, .ofNat 66, .ofNat 0), (0, .negSucc 2147483647, .ofNat 2147483647)]),
  .inl (0, 400, tAny),
  .inr (2, [(1, .ofNat 65, .ofNat 0), (1, .ofNat 68, .ofNat 0), (0, .negSucc 2147483647, .ofNat 2147483647), (0, .negSucc 2147483647, .ofNat 2147483647), (0, .negSucc 2147483647, .ofNat 2147483647), (1, .ofNat 69, .ofNat 0), (1, .ofNat 70, .ofNat 0), (0, .negSucc 2147483647, .ofNat 2147483647), (0, .negSucc 2147483647, .ofNat 2147483647)]),
  .inl (0, 400, tAny),
  .inl (0, 401, tAny),
  .inl (0, 401, tAny),
  .inr (1, [(0, .negSucc 2147483647, .ofNat 2147483647), (1, .ofNat 72, .ofNat 0), (1, .ofNat 73, .ofNat 0), (1, .ofNat 74, .ofNat 0), (1, .ofNat 75, .ofNat 0), (0, .ofNat 0, .ofNat 3), (1, .ofNat 76, .ofNat 0), (1, .ofNat 77, .ofNat 0), (1, .ofNat 78, .ofNat 0), (1, .ofNat 79, .ofNat 0), (0, .negSucc 2147483647, .ofNat 2147483647), (0, .negSucc 2147483647, .ofNat 2147483647), (1, .ofNat 80, .ofNat 0), (0, .negSucc 2147483647, .ofNat 2147483647), (1, .ofNat 81, .ofNat 0)]),
  .inl (0, 5, tAny),
  .inl (0, 5, tAny),
  .inl (0, 60, tAny),
  .inl (0, 36, tAny),
  .inl (0, 3, tAny),
  .inl (0, 3, (fun _ => (.ofNat 0, .ofNat 24))),
  .inl (0, 288, tAny),
  .inl (0, 8, tAny),
  .inl (0, 30, tAny),
  .inl (0, 400, tAny),
  .inr (1, [(0, .negSucc 2147483647, .ofNat 2147483647), (1, .ofNat 83, .ofNat 0), (1, .ofNat 84, .ofNat 0), (1, .ofNat 85, .ofNat 0), (1, .ofNat 86, .ofNat 0), (0, .ofNat 0, .ofNat 3), (1, .ofNat 87, .ofNat 0), (1, .ofNat 88, .ofNat 0), (1, .ofNat 89, .ofNat 0), (1, .ofNat 90, .ofNat 0), (0, .negSucc 2147483647, .ofNat 2147483647), (0, .negSucc 2147483647, .ofNat 2147483647), (1, .ofNat 91, .ofNat 0), (0, .negSucc 2147483647, .ofNat 2147483647), (1, .ofNat 92, .ofNat 0)]),
  .inl (0, 5, tAny),
  .inl (0, 5, tAny),
  .inl (0, 60, tAny),
  .inl (0, 36, tAny),
  .inl (0, 3, tAny),
  .inl (0, 3, (fun _ => (.ofNat 0, .ofNat 24))),
  .inl (0, 288, tAny),
  .inl (0, 8, tAny),
  .inl (0, 30, tAny),
  .inl (0, 400, tAny),
  .inr (0, [(1, .ofNat 71, .ofNat 0), (1, .ofNat 94, .ofNat 0)]),
  .inl (0, 36, tAny),
  .inr (7, [(1, .ofNat 71, .ofNat 0), (1, .ofNat 109, .ofNat 0), (1, .ofNat 96, .ofNat 0), (1, .ofNat 111, .ofNat 0), (1, .ofNat 99, .ofNat 0), (1, .ofNat 101, .ofNat 0), (1, .ofNat 103, .ofNat 0), (0, .negSucc 1, .ofNat 20), (0, .negSucc 2147483647, .ofNat 2147483647), (0, .negSucc 2147483647, .ofNat 2147483647), (2, .ofNat 0, .ofNat 0), (2, .ofNat 0, .ofNat 0), (1, .ofNat 105, .ofNat 0), (1, .ofNat 107, .ofNat 0), (1, .ofNat 108, .ofNat 0), (0, .negSucc 2147483647, .ofNat 2147483647), (0, .negSucc 2147483647, .ofNat 2147483647), (0, .negSucc 2147483647, .ofNat 2147483647), (0, .negSucc 2147483647, .ofNat 2147483647), (0, .negSucc 2147483647, .ofNat 2147483647)]),
  .inr (5, [(0, .negSucc 2147483647, .ofNat 2147483647), (0, .negSucc 2147483647, .ofNat 2147483647), (0, .ofNat 0, .ofNat 1), (1, .ofNat 97, .ofNat 0), (1, .ofNat 98, .ofNat 0)]),
  .inl (0, 3, tAny),
  .inl (0, 8, tAny),
  .inr (3, [(1, .ofNat 100, .ofNat 0), (0, .negSucc 2147483647, .ofNat 2147483647), (0, .negSucc 2147483647, .ofNat 2147483647)]),
  .inl (0, 30, tAny),
  .inr (3, [(1, .ofNat 102, .ofNat 0), (0, .negSucc 2147483647, .ofNat 2147483647), (0, .negSucc 2147483647, .ofNat 2147483647)]),
  .inl (0, 30, tAny),
  .inr (3, [(1, .ofNat 104, .ofNat 0), (0, .negSucc 2147483647, .ofNat 2147483647), (0, .negSucc 2147483647, .ofNat 2147483647)]),
  .inl (0, 30, tAny),
  .inr (6, [(1, .ofNat 106, .ofNat 0), (0, .negSucc 2147483647, .ofNat 2147483647), (0, .negSucc 2147483647, .ofNat 2147483647), (0, .negSucc 2147483647, .ofNat 2147483647), (0, .negSucc 2147483647, .ofNat 2147483647), (0, .negSucc 2147483647, .ofNat 2147483647), (0, .ofNat 0, .ofNat 1), (0, .ofNat 0, .ofNat 1)]),
  .inl (0, 64, tAny),
  .inl (0, 30, tAny),
  .inl (0, 31, tAny),
  .inr (0, [(1, .ofNat 71, .ofNat 0), (1, .ofNat 110, .ofNat 0)]),
  .inl (0, 36, tAny),
  .inr (4, [(1, .ofNat 71, .ofNat 0), (1, .ofNat 96, .ofNat 0), (0, .negSucc 2147483647, .ofNat 2147483647), (1, .ofNat 112, .ofNat 0), (1, .ofNat 113, .ofNat 0), (1, .ofNat 114, .ofNat 0), (1, .ofNat 115, .ofNat 0)]),
  .inl (0, 2325, tAny),
  .inl (0, 93, tAny),
  .inl (0, 93, tAny),
  .inl (0, 93, tAny),
  .inr (7, [(1, .ofNat 71, .ofNat 0), (1, .ofNat 130, .ofNat 0), (1, .ofNat 117, .ofNat 0), (1, .ofNat 132, .ofNat 0), (1, .ofNat 120, .ofNat 0), (1, .ofNat 122, .ofNat 0), (1, .ofNat 124, .ofNat 0), (0, .negSucc 1, .ofNat 20), (0, .negSucc 2147483647, .ofNat 2147483647), (0, .negSucc 2147483647, .ofNat 2147483647), (2, .ofNat 0, .ofNat 0), (2, .ofNat 0, .ofNat 0), (1, .ofNat 126, .ofNat 0), (1, .ofNat 128, .ofNat 0), (1, .ofNat 129, .ofNat 0), (0, .negSucc 2147483647, .ofNat 2147483647), (0, .negSucc 2147483647, .ofNat 2147483647), (0, .negSucc 2147483647, .ofNat 2147483647), (0, .negSucc 2147483647, .ofNat 2147483647), (0, .negSucc 2147483647, .ofNat 2147483647)]),
  .inr (5, [(0, .negSucc 2147483647, .ofNat 2147483647), (0, .negSucc 2147483647, .ofNat 2147483647), (0, .ofNat 0, .ofNat 1), (1, .ofNat 118, .ofNat 0), (1, .ofNat 119, .ofNat 0)]),
  .inl (0, 3, tAny),
  .inl (0, 8, tAny),
  .inr (3, [(1, .ofNat 121, .ofNat 0), (0, .negSucc 2147483647, .ofNat 2147483647), (0, .negSucc 2147483647, .ofNat 2147483647)]),
  .inl (0, 30, tAny),
  .inr (3, [(1, .ofNat 123, .ofNat 0), (0, .negSucc 2147483647, .ofNat 2147483647), (0, .negSucc 2147483647, .ofNat 2147483647)]),
  .inl (0, 30, tAny),
  .inr (3, [(1, .ofNat 125, .ofNat 0), (0, .negSucc 2147483647, .ofNat 2147483647), (0, .negSucc 2147483647, .ofNat 2147483647)]),
  .inl (0, 30, tAny),
  .inr (6, [(1, .ofNat 127, .ofNat 0), (0, .negSucc 2147483647, .ofNat 2147483647), (0, .negSucc 2147483647, .ofNat 2147483647), (0, .negSucc 2147483647, .ofNat 2147483647), (0, .negSucc 2147483647, .ofNat 2147483647), (0, .negSucc 2147483647, .ofNat 2147483647), (0, .ofNat 0, .ofNat 1), (0, .ofNat 0, .ofNat 1)]),
  .inl (0, 64, tAny),
  .inl (0, 30, tAny),
  .inl (0, 31, tAny),
  .inr (0, [(1, .ofNat 71, .ofNat 0), (1, .ofNat 131, .ofNat 0)]),
  .inl (0, 36, tAny),
  .inr (4, [(1, .ofNat 71, .ofNat 0), (1, .ofNat 117, .ofNat 0), (0, .negSucc 2147483647, .ofNat 2147483647), (1, .ofNat 133, .ofNat 0), (1, .ofNat 134, .ofNat 0), (1, .ofNat 135, .ofNat 0), (1, .ofNat 136, .ofNat 0)]),
  .inl (0, 2325, tAny),
  .inl (0, 93, tAny),
  .inl (0, 93, tAny),
  .inl (0, 93, tAny),
  .inr (9, [(1, .ofNat 71, .ofNat 0), (1, .ofNat 95, .ofNat 0), (1, .ofNat 141, .ofNat 0), (0, .ofNat 0, .ofNat 1), (1, .ofNat 138, .ofNat 0), (1, .ofNat 139, .ofNat 0), (1, .ofNat 140, .ofNat 0)]),
  .inl (0, 72, tAny),
  .inl (0, 90, tAny),
  .inl (0, 30, tAny),
  .inr (0, [(1, .ofNat 71, .ofNat 0), (1, .ofNat 142, .ofNat 0)]),
  .inl (0, 36, tAny),
  .inr (12, [(0, .negSucc 2147483647, .ofNat 2147483647), (1, .ofNat 144, .ofNat 0), (1, .ofNat 145, .ofNat 0), (0, .ofNat 0, .ofNat 1), (1, .ofNat 146, .ofNat 0), (0, .ofNat 0, .ofNat 400), (0, .ofNat 0, .ofNat 400), (0, .ofNat 0, .ofNat 400), (0, .ofNat 0, .ofNat 400), (0, .ofNat 0, .ofNat 6), (0, .negSucc 2147483647, .ofNat 2147483647), (1, .ofNat 147, .ofNat 0), (0, .ofNat 0, .ofNat 400), (1, .ofNat 148, .ofNat 0), (1, .ofNat 149, .ofNat 0), (1, .ofNat 150, .ofNat 0), (1, .ofNat 151, .ofNat 0), (1, .ofNat 152, .ofNat 0), (0, .negSucc 2147483647, .ofNat 2147483647), (1, .ofNat 153, .ofNat 0), (1, .ofNat 154, .ofNat 0), (1, .ofNat 155, .ofNat 0), (1, .ofNat 156, .ofNat 0), (1, .ofNat 157, .ofNat 0), (1, .ofNat 158, .ofNat 0), (0, .ofNat 0, .ofNat 3000), (0, .ofNat 0, .ofNat 3000), (0, .negSucc 2147483647, .ofNat 2147483647), (0, .negSucc 2147483647, .ofNat 2147483647), (0, .ofNat 0, .ofNat 1), (0, .ofNat 0, .ofNat 1), (1, .ofNat 159, .ofNat 0), (0, .negSucc 2147483647, .ofNat 2147483647), (1, .ofNat 160, .ofNat 0), (1, .ofNat 161, .ofNat 0), (0, .ofNat 0, .ofNat 2147483647), (0, .negSucc 2147483647, .ofNat 2147483647), (0, .negSucc 2147483647, .ofNat 2147483647), (1, .ofNat 162, .ofNat 0), (1, .ofNat 163, .ofNat 0), (1, .ofNat 164, .ofNat 0), (0, .ofNat 0, .ofNat 30), (0, .ofNat 0, .ofNat 30), (0, .ofNat 0, .ofNat 30), (0, .negSucc 2147483647, .ofNat 2147483647), (1, .ofNat 165, .ofNat 0), (1, .ofNat 166, .ofNat 0), (1, .ofNat 167, .ofNat 0), (1, .ofNat 168, .ofNat 0), (1, .ofNat 169, .ofNat 0), (1, .ofNat 170, .ofNat 0), (0, .negSucc 2147483647, .ofNat 2147483647)]),
  .inl (0, 2125, tS80),
  .inl (0, 1284, tS81),
  .inl (2, 400, (fun _ => (.negSucc 127, .ofNat 127))),
  .inl (0, 5, tAny),
  .inl (0, 12, (fun _ => (.negSucc 0, .ofNat 5))),
  .inl (0, 6, tAny),
  .inl (0, 400, tAny),
  .inl (0, 1116, (fun _ => (.negSucc 0, .ofNat 9))),
  .inl (3, 40176, (fun _ => (.ofNat 0, .ofNat 1))),
  .inl (0, 3, (fun _ => (.ofNat 0, .ofNat 1))),
  .inl (0, 8, (fun _ => (.ofNat 0, .ofNat 9))),
  .inl (0, 31, (fun _ => (.ofNat 0, .ofNat 1295))),
  .inl (0, 2232, (fun _ => (.ofNat 0, .ofNat 1000))),
  .inl (0, 2232, (fun _ => (.ofNat 0, .ofNat 5))),
  .inl (0, 2325, (fun _ => (.ofNat 0, .ofNat 1000))),
  .inl (0, 31, (fun _ => (.ofNat 0, .ofNat 1296))),
  .inl (1, 24, (fun _ => (.ofNat 0, .ofNat 1))),
  .inl (1, 24, (fun _ => (.ofNat 0, .ofNat 1))),
  .inl (0, 30, (fun _ => (.ofNat 0, .ofNat 1295))),
  .inl (0, 30, (fun _ => (.ofNat 0, .ofNat 1295))),
  .inl (0, 30, (fun _ => (.ofNat 0, .ofNat 1295))),
  .inl (0, 31, tAny),
  .inl (0, 24, (fun _ => (.ofNat 0, .ofNat 7))),
  .inl (0, 30, (fun _ => (.negSucc 0, .ofNat 23))),
  .inl (0, 24, (fun _ => (.ofNat 0, .ofNat 7))),
  .inl (0, 30, (fun _ => (.negSucc 0, .ofNat 23))),
  .inl (0, 625, tAny),
  .inl (1, 1, (fun _ => (.ofNat 0, .ofNat 1)))]
def tEN : List (List aEnt) := [
  [],
  [],
  [(0, [(1, 400)], (.negSucc 2147483647, .ofNat 2147483647), (.negSucc 2147483647, .ofNat 2147483647))],
  [],
  [(0, [(1, 400)], (.negSucc 2147483647, .ofNat 2147483647), (.negSucc 2147483647, .ofNat 2147483647))],
  [(0, [(1, 401)], (.negSucc 2147483647, .ofNat 2147483647), (.negSucc 2147483647, .ofNat 2147483647))],
  [(0, [(1, 401)], (.negSucc 2147483647, .ofNat 2147483647), (.negSucc 2147483647, .ofNat 2147483647))],
  [],
  [(0, [(1, 5)], (.negSucc 2147483647, .ofNat 2147483647), (.negSucc 2147483647, .ofNat 2147483647))],
  [(0, [(1, 5)], (.negSucc 2147483647, .ofNat 2147483647), (.negSucc 2147483647, .ofNat 2147483647))],
  [(0, [(1, 60)], (.negSucc 2147483647, .ofNat 2147483647), (.negSucc 2147483647, .ofNat 2147483647))],
  [(0, [(1, 36)], (.negSucc 2147483647, .ofNat 2147483647), (.negSucc 2147483647, .ofNat 2147483647))],
  [(0, [(1, 3)], (.negSucc 2147483647, .ofNat 2147483647), (.negSucc 2147483647, .ofNat 2147483647))],
  [(0, [(1, 3)], (.ofNat 0, .ofNat 24), (.ofNat 0, .ofNat 24))],
  [(0, [(1, 288)], (.negSucc 2147483647, .ofNat 2147483647), (.negSucc 2147483647, .ofNat 2147483647))],
  [(0, [(1, 8)], (.negSucc 2147483647, .ofNat 2147483647), (.negSucc 2147483647, .ofNat 2147483647))],
  [(0, [(1, 30)], (.negSucc 2147483647, .ofNat 2147483647), (.negSucc 2147483647, .ofNat 2147483647))],
  [(0, [(1, 400)], (.negSucc 2147483647, .ofNat 2147483647), (.negSucc 2147483647, .ofNat 2147483647))],
  [],
  [(0, [(1, 5)], (.negSucc 2147483647, .ofNat 2147483647), (.negSucc 2147483647, .ofNat 2147483647))],
  [(0, [(1, 5)], (.negSucc 2147483647, .ofNat 2147483647), (.negSucc 2147483647, .ofNat 2147483647))],
  [(0, [(1, 60)], (.negSucc 2147483647, .ofNat 2147483647), (.negSucc 2147483647, .ofNat 2147483647))],
  [(0, [(1, 36)], (.negSucc 2147483647, .ofNat 2147483647), (.negSucc 2147483647, .ofNat 2147483647))],
  [(0, [(1, 3)], (.negSucc 2147483647, .ofNat 2147483647), (.negSucc 2147483647, .ofNat 2147483647))],
  [(0, [(1, 3)], (.ofNat 0, .ofNat 24), (.ofNat 0, .ofNat 24))],
  [(0, [(1, 288)], (.negSucc 2147483647, .ofNat 2147483647), (.negSucc 2147483647, .ofNat 2147483647))],
  [(0, [(1, 8)], (.negSucc 2147483647, .ofNat 2147483647), (.negSucc 2147483647, .ofNat 2147483647))],
  [(0, [(1, 30)], (.negSucc 2147483647, .ofNat 2147483647), (.negSucc 2147483647, .ofNat 2147483647))],
  [(0, [(1, 400)], (.negSucc 2147483647, .ofNat 2147483647), (.negSucc 2147483647, .ofNat 2147483647))],
  [],
  [(0, [(1, 36)], (.negSucc 2147483647, .ofNat 2147483647), (.negSucc 2147483647, .ofNat 2147483647))],
  [],
  [],
  [(0, [(1, 3)], (.negSucc 2147483647, .ofNat 2147483647), (.negSucc 2147483647, .ofNat 2147483647))],
  [(0, [(1, 8)], (.negSucc 2147483647, .ofNat 2147483647), (.negSucc 2147483647, .ofNat 2147483647))],
  [],
  [(0, [(1, 30)], (.negSucc 2147483647, .ofNat 2147483647), (.negSucc 2147483647, .ofNat 2147483647))],
  [],
  [(0, [(1, 30)], (.negSucc 2147483647, .ofNat 2147483647), (.negSucc 2147483647, .ofNat 2147483647))],
  [],
  [(0, [(1, 30)], (.negSucc 2147483647, .ofNat 2147483647), (.negSucc 2147483647, .ofNat 2147483647))],
  [],
  [(0, [(1, 64)], (.negSucc 2147483647, .ofNat 2147483647), (.negSucc 2147483647, .ofNat 2147483647))],
  [(0, [(1, 30)], (.negSucc 2147483647, .ofNat 2147483647), (.negSucc 2147483647, .ofNat 2147483647))],
  [(0, [(1, 31)], (.negSucc 2147483647, .ofNat 2147483647), (.negSucc 2147483647, .ofNat 2147483647))],
  [],
  [(0, [(1, 36)], (.negSucc 2147483647, .ofNat 2147483647), (.negSucc 2147483647, .ofNat 2147483647))],
  [],
  [(0, [(1, 2325)], (.negSucc 2147483647, .ofNat 2147483647), (.negSucc 2147483647, .ofNat 2147483647))],
  [(0, [(1, 93)], (.negSucc 2147483647, .ofNat 2147483647), (.negSucc 2147483647, .ofNat 2147483647))],
  [(0, [(1, 93)], (.negSucc 2147483647, .ofNat 2147483647), (.negSucc 2147483647, .ofNat 2147483647))],
  [(0, [(1, 93)], (.negSucc 2147483647, .ofNat 2147483647), (.negSucc 2147483647, .ofNat 2147483647))],
  [],
  [],
  [(0, [(1, 3)], (.negSucc 2147483647, .ofNat 2147483647), (.negSucc 2147483647, .ofNat 2147483647))],
  [(0, [(1, 8)], (.negSucc 2147483647, .ofNat 2147483647), (.negSucc 2147483647, .ofNat 2147483647))],
  [],
  [(0, [(1, 30)], (.negSucc 2147483647, .ofNat 2147483647), (.negSucc 2147483647, .ofNat 2147483647))],
  [],
  [(0, [(1, 30)], (.negSucc 2147483647, .ofNat 2147483647), (.negSucc 2147483647, .ofNat 2147483647))],
  [],
  [(0, [(1, 30)], (.negSucc 2147483647, .ofNat 2147483647), (.negSucc 2147483647, .ofNat 2147483647))],
  [],
  [(0, [(1, 64)], (.negSucc 2147483647, .ofNat 2147483647), (.negSucc 2147483647, .ofNat 2147483647))],
  [(0, [(1, 30)], (.negSucc 2147483647, .ofNat 2147483647), (.negSucc 2147483647, .ofNat 2147483647))],
  [(0, [(1, 31)], (.negSucc 2147483647, .ofNat 2147483647), (.negSucc 2147483647, .ofNat 2147483647))],
  [],
  [(0, [(1, 36)], (.negSucc 2147483647, .ofNat 2147483647), (.negSucc 2147483647, .ofNat 2147483647))],
  [],
  [(0, [(1, 2325)], (.negSucc 2147483647, .ofNat 2147483647), (.negSucc 2147483647, .ofNat 2147483647))],
  [(0, [(1, 93)], (.negSucc 2147483647, .ofNat 2147483647), (.negSucc 2147483647, .ofNat 2147483647))],
  [(0, [(1, 93)], (.negSucc 2147483647, .ofNat 2147483647), (.negSucc 2147483647, .ofNat 2147483647))],
  [(0, [(1, 93)], (.negSucc 2147483647, .ofNat 2147483647), (.negSucc 2147483647, .ofNat 2147483647))],
  [],
  [(0, [(1, 72)], (.negSucc 2147483647, .ofNat 2147483647), (.negSucc 2147483647, .ofNat 2147483647))],
  [(0, [(1, 90)], (.negSucc 2147483647, .ofNat 2147483647), (.negSucc 2147483647, .ofNat 2147483647))],
  [(0, [(1, 30)], (.negSucc 2147483647, .ofNat 2147483647), (.negSucc 2147483647, .ofNat 2147483647))],
  [],
  [(0, [(1, 36)], (.negSucc 2147483647, .ofNat 2147483647), (.negSucc 2147483647, .ofNat 2147483647))],
  [],
  [(0, [], (.ofNat 0, .ofNat 5), (.ofNat 0, .ofNat 5)), (1, [], (.ofNat 0, .ofNat 3), (.ofNat 0, .ofNat 3)), (2, [], (.ofNat 0, .ofNat 10), (.ofNat 0, .ofNat 10)), (3, [], (.negSucc 0, .ofNat 30), (.negSucc 0, .ofNat 30)), (4, [], (.ofNat 0, .ofNat 1), (.ofNat 0, .ofNat 1)), (5, [(1, 8)], (.ofNat 0, .ofNat 9), (.ofNat 0, .ofNat 9)), (13, [(1, 36)], (.negSucc 0, .ofNat 9), (.negSucc 0, .ofNat 9)), (49, [(14, 5)], (.ofNat 0, .ofNat 20), (.ofNat 0, .ofNat 20)), (50, [(14, 5)], (.ofNat 0, .ofNat 6), (.ofNat 0, .ofNat 6)), (51, [(14, 5), (2, 6)], (.negSucc 0, .ofNat 5), (.negSucc 0, .ofNat 5)), (52, [(14, 5), (2, 6)], (.negSucc 0, .ofNat 5), (.negSucc 0, .ofNat 5)), (51, [(14, 5), (1, 12)], (.negSucc 0, .ofNat 5), (.negSucc 0, .ofNat 5)), (119, [(98, 3)], (.ofNat 0, .ofNat 1), (.ofNat 0, .ofNat 1)), (120, [(98, 3)], (.ofNat 0, .ofNat 24), (.ofNat 0, .ofNat 24)), (121, [(98, 3), (4, 24)], (.ofNat 0, .ofNat 4), (.ofNat 0, .ofNat 4)), (122, [(98, 3), (4, 24)], (.negSucc 0, .ofNat 5), (.negSucc 0, .ofNat 5)), (123, [(98, 3), (4, 24)], (.negSucc 5, .ofNat 7), (.negSucc 5, .ofNat 7)), (124, [(98, 3), (4, 24)], (.negSucc 6, .ofNat 12), (.negSucc 6, .ofNat 12)), (121, [(98, 3), (4, 24), (1, 4)], (.negSucc 6, .ofNat 12), (.ofNat 0, .ofNat 4)), (413, [(3, 10)], (.ofNat 0, .ofNat 30), (.ofNat 0, .ofNat 30)), (414, [(3, 10)], (.ofNat 0, .ofNat 35), (.ofNat 0, .ofNat 35)), (415, [(3, 10)], (.negSucc 0, .ofNat 9), (.negSucc 0, .ofNat 9)), (443, [], (.ofNat 0, .ofNat 10), (.ofNat 0, .ofNat 10)), (444, [(4, 10)], (.negSucc 0, .ofNat 999), (.negSucc 0, .ofNat 999)), (445, [(4, 10)], (.negSucc 0, .ofNat 3), (.negSucc 0, .ofNat 3)), (446, [(4, 10)], (.ofNat 0, .ofNat 400), (.ofNat 0, .ofNat 400)), (447, [(4, 10)], (.ofNat 0, .ofNat 400), (.ofNat 0, .ofNat 400)), (484, [(2, 400)], (.negSucc 0, .ofNat 12), (.negSucc 0, .ofNat 12)), (485, [(2, 400)], (.negSucc 0, .ofNat 999), (.negSucc 0, .ofNat 999)), (1284, [], (.ofNat 0, .ofNat 10), (.ofNat 0, .ofNat 10)), (1285, [(4, 10)], (.negSucc 0, .ofNat 999), (.negSucc 0, .ofNat 999)), (1286, [(4, 10)], (.negSucc 0, .ofNat 3), (.negSucc 0, .ofNat 3)), (1287, [(4, 10)], (.ofNat 0, .ofNat 400), (.ofNat 0, .ofNat 400)), (1288, [(4, 10)], (.ofNat 0, .ofNat 400), (.ofNat 0, .ofNat 400)), (1325, [(2, 400)], (.negSucc 0, .ofNat 12), (.negSucc 0, .ofNat 12)), (1326, [(2, 400)], (.negSucc 0, .ofNat 999), (.negSucc 0, .ofNat 999))],
  [(0, [], (.ofNat 0, .ofNat 5), (.ofNat 0, .ofNat 5)), (1, [], (.ofNat 0, .ofNat 3), (.ofNat 0, .ofNat 3)), (2, [], (.ofNat 0, .ofNat 10), (.ofNat 0, .ofNat 10)), (3, [], (.negSucc 0, .ofNat 30), (.negSucc 0, .ofNat 30)), (4, [], (.ofNat 0, .ofNat 1), (.ofNat 0, .ofNat 1)), (5, [(1, 8)], (.ofNat 0, .ofNat 9), (.ofNat 0, .ofNat 9)), (13, [(1, 36)], (.negSucc 0, .ofNat 9), (.negSucc 0, .ofNat 9)), (49, [(14, 5)], (.ofNat 0, .ofNat 20), (.ofNat 0, .ofNat 20)), (50, [(14, 5)], (.ofNat 0, .ofNat 6), (.ofNat 0, .ofNat 6)), (51, [(14, 5), (2, 6)], (.negSucc 0, .ofNat 5), (.negSucc 0, .ofNat 5)), (52, [(14, 5), (2, 6)], (.negSucc 0, .ofNat 5), (.negSucc 0, .ofNat 5)), (51, [(14, 5), (1, 12)], (.negSucc 0, .ofNat 5), (.negSucc 0, .ofNat 5)), (119, [(98, 3)], (.ofNat 0, .ofNat 1), (.ofNat 0, .ofNat 1)), (120, [(98, 3)], (.ofNat 0, .ofNat 24), (.ofNat 0, .ofNat 24)), (121, [(98, 3), (4, 24)], (.ofNat 0, .ofNat 4), (.ofNat 0, .ofNat 4)), (122, [(98, 3), (4, 24)], (.negSucc 0, .ofNat 5), (.negSucc 0, .ofNat 5)), (123, [(98, 3), (4, 24)], (.negSucc 5, .ofNat 7), (.negSucc 5, .ofNat 7)), (124, [(98, 3), (4, 24)], (.negSucc 6, .ofNat 12), (.negSucc 6, .ofNat 12)), (121, [(98, 3), (4, 24), (1, 4)], (.negSucc 6, .ofNat 12), (.ofNat 0, .ofNat 4)), (413, [(3, 10)], (.ofNat 0, .ofNat 30), (.ofNat 0, .ofNat 30)), (414, [(3, 10)], (.ofNat 0, .ofNat 35), (.ofNat 0, .ofNat 35)), (415, [(3, 10)], (.negSucc 0, .ofNat 9), (.negSucc 0, .ofNat 9)), (443, [], (.ofNat 0, .ofNat 10), (.ofNat 0, .ofNat 10)), (444, [(4, 10)], (.negSucc 0, .ofNat 999), (.negSucc 0, .ofNat 999)), (445, [(4, 10)], (.negSucc 0, .ofNat 3), (.negSucc 0, .ofNat 3)), (446, [(4, 10)], (.ofNat 0, .ofNat 400), (.ofNat 0, .ofNat 400)), (447, [(4, 10)], (.ofNat 0, .ofNat 400), (.ofNat 0, .ofNat 400)), (484, [(2, 400)], (.negSucc 0, .ofNat 12), (.negSucc 0, .ofNat 12)), (485, [(2, 400)], (.negSucc 0, .ofNat 999), (.negSucc 0, .ofNat 999))],
  [(0, [(1, 400)], (.negSucc 127, .ofNat 127), (.negSucc 127, .ofNat 127))],
  [(0, [(1, 5)], (.negSucc 2147483647, .ofNat 2147483647), (.negSucc 2147483647, .ofNat 2147483647))],
  [(0, [(1, 12)], (.negSucc 0, .ofNat 5), (.negSucc 0, .ofNat 5))],
  [(0, [(1, 6)], (.negSucc 2147483647, .ofNat 2147483647), (.negSucc 2147483647, .ofNat 2147483647))],
  [(0, [(1, 400)], (.negSucc 2147483647, .ofNat 2147483647), (.negSucc 2147483647, .ofNat 2147483647))],
  [(0, [(1, 1116)], (.negSucc 0, .ofNat 9), (.negSucc 0, .ofNat 9))],
  [(0, [(1, 40176)], (.ofNat 0, .ofNat 1), (.ofNat 0, .ofNat 1))],
  [(0, [(1, 3)], (.ofNat 0, .ofNat 1), (.ofNat 0, .ofNat 1))],
  [(0, [(1, 8)], (.ofNat 0, .ofNat 9), (.ofNat 0, .ofNat 9))],
  [(0, [(1, 31)], (.ofNat 0, .ofNat 1295), (.ofNat 0, .ofNat 1295))],
  [(0, [(1, 2232)], (.ofNat 0, .ofNat 1000), (.ofNat 0, .ofNat 1000))],
  [(0, [(1, 2232)], (.ofNat 0, .ofNat 5), (.ofNat 0, .ofNat 5))],
  [(0, [(1, 2325)], (.ofNat 0, .ofNat 1000), (.ofNat 0, .ofNat 1000))],
  [(0, [(1, 31)], (.ofNat 0, .ofNat 1296), (.ofNat 0, .ofNat 1296))],
  [(0, [(1, 24)], (.ofNat 0, .ofNat 1), (.ofNat 0, .ofNat 1))],
  [(0, [(1, 24)], (.ofNat 0, .ofNat 1), (.ofNat 0, .ofNat 1))],
  [(0, [(1, 30)], (.ofNat 0, .ofNat 1295), (.ofNat 0, .ofNat 1295))],
  [(0, [(1, 30)], (.ofNat 0, .ofNat 1295), (.ofNat 0, .ofNat 1295))],
  [(0, [(1, 30)], (.ofNat 0, .ofNat 1295), (.ofNat 0, .ofNat 1295))],
  [(0, [(1, 31)], (.negSucc 2147483647, .ofNat 2147483647), (.negSucc 2147483647, .ofNat 2147483647))],
  [(0, [(1, 24)], (.ofNat 0, .ofNat 7), (.ofNat 0, .ofNat 7))],
  [(0, [(1, 30)], (.negSucc 0, .ofNat 23), (.negSucc 0, .ofNat 23))],
  [(0, [(1, 24)], (.ofNat 0, .ofNat 7), (.ofNat 0, .ofNat 7))],
  [(0, [(1, 30)], (.negSucc 0, .ofNat 23), (.negSucc 0, .ofNat 23))],
  [(0, [(1, 625)], (.negSucc 2147483647, .ofNat 2147483647), (.negSucc 2147483647, .ofNat 2147483647))],
  [(0, [(1, 1)], (.ofNat 0, .ofNat 1), (.ofNat 0, .ofNat 1))]]
def tOUT : List (Nat × Int × Int) := [(8, .negSucc 0, .ofNat 1), (8, .negSucc 0, .ofNat 1), (16, .negSucc 1, .ofNat 2), (2, .ofNat 0, .ofNat 1), (2, .negSucc 0, .ofNat 0), (4, .negSucc 0, .ofNat 1), (4, .negSucc 0, .ofNat 1)]
def gG : aG := (tT, tEN, tOUT)
def gInl : List (Nat × Bool) := [(102, false), (105, false), (113, false), (131, false), (104, false), (103, false), (116, false), (121, false), (117, false), (106, false), (49, false), (48, false), (44, false), (35, false), (118, false), (114, false), (20, false), (31, false), (24, false), (82, false), (83, false), (160, false), (28, true), (14, true), (193, false), (194, false), (199, false), (198, false), (203, false), (197, false), (206, false), (205, false), (211, false), (245, false), (219, false), (220, false), (224, false), (200, false), (177, false), (239, false), (238, false), (204, false), (210, false), (270, false), (183, false), (235, false), (207, false), (208, false), (237, false), (167, false)]
def gProt : List aMod := [(80, 0, 443, 1284), (80, 0, 0, 1), (80, 0, 13, 49), (81, 0, 443, 1284), (81, 0, 0, 1), (81, 0, 13, 49), (79, 5, 0, 1)]
def aWd (O : pOut) (I : PH → Prop) : Prop := (∀ n g, O 7 = some (n, g) → n < 2147483648) ∧ gOK O gG ∧ ∀ M : List aMod, M.all (mFree gProt) = true → ∀ es es', fr M es es' → I es → I es'
section
variable {O : pOut} {I : PH → Prop}
theorem cl_nil : ∀ c ∈ ([] : List aCon), conOK O gG I c := fun _ h => by cases h
theorem cl_cons {c : aCon} {r : List aCon} (h : conOK O gG I c) (hr : ∀ c ∈ r, conOK O gG I c) : ∀ x ∈ c :: r, conOK O gG I x := fun x hx => by
  rcases List.mem_cons.mp hx with rfl | hx
  · exact h
  · exact hr x hx
end
theorem gOut_ok (xs : Nat → Int32) (n : Nat) : ∀ (k len : Nat) (lo hi : Int), tOUT[k]? = some (len, lo, hi) → k < 7 ∧ ∃ f, pO0 xs n k = some (len, f) ∧ ∀ j, j < len → lo ≤ (f j).toInt ∧ (f j).toInt ≤ hi := by
  intro k len lo hi h
  have hk : k < 7 := (List.getElem?_eq_some_iff.mp h).1
  refine ⟨hk, ?_⟩
  have key : (tOUT.zip pSteps).all (fun q => decide (q.2.length = q.1.1) && q.2.all (fun x => iLe q.1.2.1 x.toInt && iLe x.toInt q.1.2.2)) = true := by decide +kernel
  have hs : ∃ l, pSteps[k]? = some l := ⟨pSteps[k]'hk, List.getElem?_eq_getElem hk⟩
  obtain ⟨l, hl⟩ := hs
  have hm : ((len, lo, hi), l) ∈ tOUT.zip pSteps := List.mem_of_getElem? (i := k) (by rw [List.getElem?_zip_eq_some]; exact ⟨h, hl⟩)
  have h1 := List.all_eq_true.mp key _ hm
  simp only [Bool.and_eq_true, decide_eq_true_eq] at h1
  obtain ⟨h1, h2⟩ := h1
  refine ⟨fun j => l.getD j 0, ?_, fun j hj => ?_⟩
  · unfold pO0
    rw [if_neg (by omega), hl]
    simp only [h1]
  · have hj' : j < l.length := by omega
    have h3 := List.all_eq_true.mp h2 l[j] (List.getElem_mem hj')
    simp only [Bool.and_eq_true, iLe_iff] at h3
    have e1 : l.getD j 0 = l[j] := by simp [List.getD_eq_getElem?_getD, hj']
    simp only [e1]
    exact h3
theorem gEnt_ck : (tT.zip tEN).all (fun q => match q.1 with
    | .inl (_, n, sp) => q.2.all (fun en => entCk n sp en.2.2.1 en.2.2.2 en.1 en.2.1)
    | _ => true) = true := by decide +kernel
theorem gG_ok (xs : Nat → Int32) (n : Nat) : gOK (pO0 xs n) gG := by
  refine ⟨fun p t m sp ens en h1 h2 h3 => ?_, gOut_ok xs n⟩
  have hm : ((.inl (t, m, sp) : tE), ens) ∈ tT.zip tEN := List.mem_of_getElem? (i := p) (by rw [List.getElem?_zip_eq_some]; exact ⟨h1, h2⟩)
  have h4 := List.all_eq_true.mp gEnt_ck _ hm
  simp only at h4
  have h5 := List.all_eq_true.mp h4 en h3
  intro k hk
  exact entCk_ok en.2.1 en.1 h5 k hk
