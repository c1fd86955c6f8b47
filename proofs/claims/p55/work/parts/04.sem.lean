/-! the mini machine: the bytecode over ids (family, tree, node) and whole numbers -/
abbrev mm_V : Type := Sum (Sum Int Int) (Option mm_Id)
abbrev zI (n : Int) : mm_V := Sum.inl (Sum.inl n)
abbrev zL (n : Int) : mm_V := Sum.inl (Sum.inr n)
abbrev zR (x : mm_Id) : mm_V := Sum.inr (some x)
abbrev zU : mm_V := Sum.inr none
/-- what the cells hold: numbers, references; how many cells there are; how many slots -/
abbrev mm_H : Type := (mm_Id → Int → Int) × (mm_Id → Int → mm_Id) × Int × Int
abbrev mm_nul : mm_Id := (0, 0, 0)
def mm_w (z : Int) : Int := (z + 2147483648) % 4294967296 - 2147483648
def mm_W (z : Int) : Int := (z + 9223372036854775808) % 18446744073709551616 - 9223372036854775808
def mm_b (z : Int) : Int := (z + 128) % 256 - 128
def mm_up {α : Type} (f : mm_Id → Int → α) (x : mm_Id) (j : Int) (v : α) : mm_Id → Int → α := fun y k => if y = x ∧ k = j then v else f y k
def mm_cp (f : mm_Id → Int → Int) (x : mm_Id) (sp : Int) (y : mm_Id) (dp n : Int) : mm_Id → Int → Int := fun z k => if z = y ∧ dp ≤ k ∧ k < dp + n then f x (sp + (k - dp)) else f z k
def mm_isT (t : Int) : Prop := 0 ≤ t ∧ t < 18 ∨ t = 26 ∨ t = 27

def mm_on (x : mm_Id) (v : Nat × Int) : Nat × Int := if x.2.1 = 0 ∧ x.2.2 = 0 then v else (0, 0)
def mm_oi (x : mm_Id) (n : Int) (v : Nat × Int) : Nat × Int := if 0 ≤ x.2.1 ∧ x.2.1 < n ∧ x.2.2 = 0 then v else (0, 0)
def mm_ot (x : mm_Id) (v : Nat × Int) : Nat × Int := if (0 ≤ x.2.1 ∧ x.2.1 < 18 ∨ x.2.1 = 26 ∨ x.2.1 = 27) ∧ x.2.2 = 0 then v else (0, 0)
def mm_ox (x : mm_Id) (v : Nat × Int) : Nat × Int := if (0 ≤ x.2.1 ∧ x.2.1 < 18 ∨ x.2.1 = 26 ∨ x.2.1 = 27) ∧ 0 ≤ x.2.2 ∧ x.2.2 ≤ 36 then v else (0, 0)
/-- the shape of a cell: 1 an object (of which cls), 2 ints, 3 bytes, 4 booleans, 5 longs, 6 to 9 references (how many); 10 the script; 0 none; of one pool and the reference -/
def mm_SHo (x : mm_Id) : Nat × Int := match x.1 with
  | 1 => mm_on x (1, 0)
  | 2 => mm_on x (6, 5)
  | 3 => mm_on x (7, 8)
  | 4 => mm_on x (8, 8)
  | 5 => mm_on x (1, 5)
  | 6 => mm_on x (2, 8)
  | 7 => mm_on x (2, 100)
  | 8 => mm_on x (1, 7)
  | 9 => mm_on x (3, 8000)
  | 10 => mm_on x (3, 33600)
  | 11 => mm_on x (5, 1600)
  | 12 => mm_on x (5, 5)
  | 13 => mm_on x (3, 20)
  | 14 => mm_on x (1, 2)
  | 15 => mm_on x (1, 6)
  | 16 => mm_on x (3, 102060)
  | 17 => mm_on x (2, 1701)
  | 18 => mm_on x (2, 1701)
  | 19 => mm_on x (4, 1701)
  | 20 => mm_on x (2, 1701)
  | 21 => mm_on x (2, 1701)
  | 22 => mm_ot x (1, 9)
  | 23 => mm_ot x (9, 37)
  | 24 => mm_ox x (1, 4)
  | 25 => mm_ox x (2, 24)
  | 26 => mm_ox x (2, 24)
  | 27 => mm_ox x (2, 36)
  | 28 => mm_ox x (2, 4)
  | 29 => mm_ox x (5, 4)
  | 30 => mm_ox x (2, 8)
  | 31 => mm_oi x 5 (1, 1)
  | 32 => mm_oi x 5 (2, 8)
  | 33 => mm_oi x 8 (1, 8)
  | 34 => mm_oi x 8 (1, 3)
  | 35 => mm_oi x 8 (3, 2160)
  | 40 => mm_on x (1, 10)
  | 41 => mm_on x (2, 1044)
  | 42 => mm_on x (2, 1044)
  | 43 => mm_on x (2, 37584)
  | 44 => mm_on x (2, 1044)
  | 45 => mm_on x (2, 25056)
  | 46 => mm_on x (2, 25056)
  | 47 => mm_on x (2, 1044)
  | 48 => mm_on x (2, 1044)
  | 49 => mm_on x (2, 1044)
  | 50 => mm_on x (2, 4176)
  | 51 => mm_on x (5, 4176)
  | 52 => mm_on x (2, 8352)
  | 53 => mm_on x (4, 1044)
  | 54 => mm_on x (3, 180060)
  | 55 => mm_on x (4, 3001)
  | 56 => mm_on x (4, 3001)
  | 57 => mm_on x (2, 26)
  | 58 => mm_on x (2, 26)
  | 59 => mm_on x (2, 26)
  | 60 => mm_on x (4, 26)
  | 61 => mm_on x (2, 208)
  | 62 => mm_on x (2, 9)
  | 63 => mm_on x (2, 9)
  | 64 => mm_on x (3, 19440)
  | 65 => mm_on x (2, 8)
  | 66 => mm_on x (2, 80)
  | 67 => mm_on x (3, 8000)
  | 68 => mm_on x (3, 34000)
  | 69 => mm_on x (5, 4000)
  | 70 => mm_on x (5, 5)
  | 90 => mm_on x (10, 0)
  | _ => (0, 0)
/-- the second pool's cells are the first one's, a hundred further -/
def mm_fl (x : mm_Id) : mm_Id := if x.1 < 36 ∧ 100 ≤ x.2.2 then (x.1, x.2.1, x.2.2 - 100) else x
def mm_SH (x : mm_Id) : Nat × Int := mm_SHo (mm_fl x)
def mm_hu (x : mm_Id) : mm_Id := (x.1, x.2.1, x.2.2 + 100)
def mm_tb (t : Int) : Int := if t < 5 then 545 + 524 * t else if t < 13 then 3164 + 262 * (t - 5) else if t < 18 then 806 + 524 * (t - 13) else 21 + 261 * (t - 26)
/-- how many cells of the law's making lie before a cell -/
def mm_offo (x : mm_Id) : Int := match x.1 with
  | 22 => mm_tb x.2.1
  | 23 => mm_tb x.2.1 + 1
  | 24 => mm_tb x.2.1 + 2 + 7 * x.2.2 + 0
  | 25 => mm_tb x.2.1 + 2 + 7 * x.2.2 + 1
  | 26 => mm_tb x.2.1 + 2 + 7 * x.2.2 + 2
  | 27 => mm_tb x.2.1 + 2 + 7 * x.2.2 + 3
  | 28 => mm_tb x.2.1 + 2 + 7 * x.2.2 + 4
  | 29 => mm_tb x.2.1 + 2 + 7 * x.2.2 + 5
  | 30 => mm_tb x.2.1 + 2 + 7 * x.2.2 + 6
  | 31 => 543 + 524 * x.2.1
  | 32 => 544 + 524 * x.2.1
  | 33 => 3163 + 262 * x.2.1
  | 34 => 5259 + 2 * x.2.1
  | 35 => 5260 + 2 * x.2.1
  | f => if f < 22 then (f : Int) - 1 else (f : Int) + 5235
/-- the cell of a tree at a place in it -/
def mm_bt (t k : Int) : mm_Id := if k = 0 then (22, t, 0) else if k = 1 then (23, t, 0) else ((24 + (k - 2) % 7).toNat, t, (k - 2) / 7)
/-- the cell that is made as the k-th -/
def mm_beo (k : Int) : mm_Id := if k < 21 then ((k + 1).toNat, 0, 0) else if k < 282 then mm_bt 26 (k - 21) else if k < 543 then mm_bt 27 (k - 282)
  else if k < 3163 then (if (k - 543) % 524 = 0 then (31, (k - 543) / 524, 0) else if (k - 543) % 524 = 1 then (32, (k - 543) / 524, 0) else if (k - 543) % 524 < 263 then mm_bt ((k - 543) / 524) ((k - 543) % 524 - 2) else mm_bt ((k - 543) / 524 + 13) ((k - 543) % 524 - 263))
  else if k < 5259 then (if (k - 3163) % 262 = 0 then (33, (k - 3163) / 262, 0) else mm_bt ((k - 3163) / 262 + 5) ((k - 3163) % 262 - 1))
  else if k < 5275 then (if (k - 5259) % 2 = 0 then (34, (k - 5259) / 2, 0) else (35, (k - 5259) / 2, 0)) else ((k - 5235).toNat, 0, 0)
def mm_off (x : mm_Id) : Int := if x.1 < 36 then (if 100 ≤ x.2.2 then mm_offo (mm_fl x) + 5275 else mm_offo x) else mm_offo x + 5275
def mm_be (k : Int) : mm_Id := if k < 5275 then mm_beo k else if k < 10550 then mm_hu (mm_beo (k - 5275)) else mm_beo (k - 5275)
def mm_words : List (List Int) := []
def mm_sl (k : Int) : Int := ((mm_words.getD k.toNat []).length : Int)
def mm_sc (k i : Int) : Int := (mm_words.getD k.toNat []).getD i.toNat 0
/-- what was there ahead, and stays -/
def mm_ro (x : mm_Id) (j : Int) : Int := if j < 46 then j + 1 else 0
def mm_ror (x : mm_Id) (j : Int) : mm_Id := match x.1 with
  | 91 => (92, j, 0)
  | 92 => (93, 2 * x.2.1 + j, 0)
  | 93 => (95, x.2.1, 0)
  | _ => mm_nul
def mm_and (a b : Int) : Int := (Int32.ofInt a &&& Int32.ofInt b).toInt
def mm_shr (a b : Int) : Int := (Int32.ofInt a >>> (Int32.ofInt b &&& 31)).toInt
def mm_land (a b : Int) : Int := (Int64.ofInt a &&& Int64.ofInt b).toInt
def mm_lor (a b : Int) : Int := (Int64.ofInt a ||| Int64.ofInt b).toInt
def mm_lshl (a b : Int) : Int := (Int64.ofInt a <<< ((Int32.ofInt b).toInt64 &&& 63)).toInt
def mm_lshr (a b : Int) : Int := (Int64.ofInt a >>> ((Int32.ofInt b).toInt64 &&& 63)).toInt
def mm_lushr (a b : Int) : Int := ((Int64.ofInt a).toUInt64 >>> ((Int32.ofInt b).toInt64.toUInt64 &&& Int64.toUInt64 63)).toInt64.toInt
def mm_cmp (a b : Int) : Int := if a < b then (-1) else if a = b then 0 else 1
/-- a store to a loc: a long that lies before it is no more -/
def mm_st (l : List mm_V) (k : Nat) (v : mm_V) : List mm_V := match k with
  | 0 => l.set 0 v
  | j + 1 => match l[j]? with
    | some (.inl (.inr _)) => (l.set j zU).set (j + 1) v
    | _ => l.set (j + 1) v
def mm_lv (x : mm_Id) (nx : Int) : Bool := decide (mm_off x < nx)
def mm_ok (x : mm_Id) (nx : Int) (k : Nat) (c : Int) : Bool := decide (mm_SH x = (k, c)) && mm_lv x nx
def mm_in (x : mm_Id) (nx : Int) (k : Nat) (j : Int) : Bool := decide ((mm_SH x).1 = k) && mm_lv x nx && decide (0 ≤ j) && decide (j < (mm_SH x).2)
/-- whose references an array of a kind holds -/
def mm_ec (kd : Nat) : Nat := if kd = 6 then 1 else if kd = 7 then 8 else if kd = 8 then 3 else 4
abbrev mm_R : Type := Option (List mm_V × List mm_V × mm_H)
def mm_x1 (i : mm_I) (l s : List mm_V) (h : mm_H) : mm_R := match i.1 with
  | 1 => some (l, zI i.2.2.1 :: s, h)
  | 2 => some (l, zL i.2.2.1 :: s, h)
  | 3 => match l[i.2.1]? with | some (.inl (.inl x)) => some (l, zI x :: s, h) | _ => none
  | 4 => match l[i.2.1]? with | some (.inl (.inr x)) => some (l, zL x :: s, h) | _ => none
  | 5 => match l[i.2.1]? with | some (.inr (some x)) => some (l, zR x :: s, h) | _ => none
  | 6 => match s with | .inl (.inl x) :: s => if i.2.1 < l.length then some (mm_st l i.2.1 (zI x), s, h) else none | _ => none
  | 7 => match s with | .inl (.inr x) :: s => if i.2.1 + 1 < l.length then some ((mm_st l i.2.1 (zL x)).set (i.2.1 + 1) zU, s, h) else none | _ => none
  | 8 => match s with | .inr (some x) :: s => if i.2.1 < l.length then some (mm_st l i.2.1 (zR x), s, h) else none | _ => none
  | 9 => match l[i.2.1]? with | some (.inl (.inl x)) => some (l.set i.2.1 (zI (mm_w (x + i.2.2.1))), s, h) | _ => none
  | 35 => match s with | .inl (.inl x) :: s => some (l, zI x :: zI x :: s, h) | .inr (some x) :: s => some (l, zR x :: zR x :: s, h) | _ => none
  | 36 => match s with | .inl (.inl _) :: s => some (l, s, h) | .inr (some _) :: s => some (l, s, h) | _ => none
  | 37 => match s with | .inl (.inl y) :: .inr (some x) :: s => some (l, zI y :: zR x :: zI y :: zR x :: s, h) | _ => none
  | 38 => some (l, zR mm_nul :: s, h)
  | 39 => match s with | .inl (.inl x) :: s => some (l, zI (x % 65536) :: s, h) | _ => none
  | _ => none
def mm_x2 (i : mm_I) (l s : List mm_V) (h : mm_H) : mm_R := match i.1 with
  | 10 => (match s with | .inl (.inl y) :: .inl (.inl x) :: s => some (l, zI (mm_w (x + y)) :: s, h) | _ => none)
  | 11 => (match s with | .inl (.inl y) :: .inl (.inl x) :: s => some (l, zI (mm_w (x - y)) :: s, h) | _ => none)
  | 12 => (match s with | .inl (.inl y) :: .inl (.inl x) :: s => some (l, zI (mm_w (x * y)) :: s, h) | _ => none)
  | 13 => (match s with | .inl (.inl y) :: .inl (.inl x) :: s => if y = 0 then none else some (l, zI (mm_w (x.tdiv y)) :: s, h) | _ => none)
  | 14 => (match s with | .inl (.inl y) :: .inl (.inl x) :: s => if y = 0 then none else some (l, zI (x.tmod y) :: s, h) | _ => none)
  | 15 => (match s with | .inl (.inl x) :: s => some (l, zI (mm_w (-x)) :: s, h) | _ => none)
  | 16 => (match s with | .inl (.inl y) :: .inl (.inl x) :: s => some (l, zI (mm_and x y) :: s, h) | _ => none)
  | 17 => (match s with | .inl (.inl y) :: .inl (.inl x) :: s => some (l, zI (mm_shr x y) :: s, h) | _ => none)
  | 20 => (match s with | .inl (.inr y) :: .inl (.inr x) :: s => some (l, zL (mm_W (x + y)) :: s, h) | _ => none)
  | 21 => (match s with | .inl (.inr y) :: .inl (.inr x) :: s => some (l, zL (mm_W (x - y)) :: s, h) | _ => none)
  | 22 => (match s with | .inl (.inr y) :: .inl (.inr x) :: s => some (l, zL (mm_W (x * y)) :: s, h) | _ => none)
  | 23 => (match s with | .inl (.inr y) :: .inl (.inr x) :: s => if y = 0 then none else some (l, zL (mm_W (x.tdiv y)) :: s, h) | _ => none)
  | 24 => (match s with | .inl (.inr y) :: .inl (.inr x) :: s => if y = 0 then none else some (l, zL (x.tmod y) :: s, h) | _ => none)
  | 25 => (match s with | .inl (.inr x) :: s => some (l, zL (mm_W (-x)) :: s, h) | _ => none)
  | 26 => (match s with | .inl (.inr y) :: .inl (.inr x) :: s => some (l, zL (mm_land x y) :: s, h) | _ => none)
  | 27 => (match s with | .inl (.inr y) :: .inl (.inr x) :: s => some (l, zL (mm_lor x y) :: s, h) | _ => none)
  | 28 => (match s with | .inl (.inl y) :: .inl (.inr x) :: s => some (l, zL (mm_lshl x y) :: s, h) | _ => none)
  | 29 => (match s with | .inl (.inl y) :: .inl (.inr x) :: s => some (l, zL (mm_lshr x y) :: s, h) | _ => none)
  | 30 => (match s with | .inl (.inl y) :: .inl (.inr x) :: s => some (l, zL (mm_lushr x y) :: s, h) | _ => none)
  | 31 => (match s with | .inl (.inl x) :: s => some (l, zL x :: s, h) | _ => none)
  | 32 => (match s with | .inl (.inr x) :: s => some (l, zI (mm_w x) :: s, h) | _ => none)
  | 33 => (match s with | .inl (.inl x) :: s => some (l, zI (mm_b x) :: s, h) | _ => none)
  | 34 => (match s with | .inl (.inr y) :: .inl (.inr x) :: s => some (l, zI (mm_cmp x y) :: s, h) | _ => none)
  | _ => none
def mm_x3 (i : mm_I) (l s : List mm_V) (h : mm_H) : mm_R := match i.1 with
  | 60 => (match s with | .inr (some x) :: s => if i.2.2.1 = 20 then (if mm_SH x = (14, 0) ∧ i.2.1 = 1 then some (l, zI 0 :: s, h) else none) else if i.2.2.1 = 21 then (if mm_SH x = (13, 11) ∧ i.2.1 = 2 then some (l, zI x.2.1 :: s, h) else none) else if mm_ok x h.2.2.1 1 i.2.2.1 then some (l, zI (h.1 x i.2.1) :: s, h) else none | _ => none)
  | 61 => (match s with | .inr (some x) :: s => if mm_ok x h.2.2.1 1 i.2.2.1 then some (l, zL (h.1 x i.2.1) :: s, h) else none | _ => none)
  | 62 => (match s with | .inr (some x) :: s => if i.2.2.1 = 11 then (if mm_SH x = (13, 11) ∧ i.2.1 < 2 then some (l, zR (mm_ror x i.2.1) :: s, h) else none) else if i.2.2.1 = 20 then (if mm_SH x = (14, 0) ∧ i.2.1 = 0 then some (l, zR (mm_ror x 0) :: s, h) else none) else if mm_ok x h.2.2.1 1 i.2.2.1 then some (l, zR (h.2.1 x i.2.1) :: s, h) else none | _ => none)
  | 63 => (match s with | .inl (.inl v) :: .inr (some x) :: s => if mm_ok x h.2.2.1 1 i.2.2.1 then some (l, s, (mm_up h.1 x i.2.1 v, h.2)) else none | _ => none)
  | 64 => (match s with | .inl (.inl v) :: .inr (some x) :: s => if mm_ok x h.2.2.1 1 i.2.2.1 ∧ (v = 0 ∨ v = 1) then some (l, s, (mm_up h.1 x i.2.1 v, h.2)) else none | _ => none)
  | 65 => (match s with | .inl (.inr v) :: .inr (some x) :: s => if mm_ok x h.2.2.1 1 i.2.2.1 then some (l, s, (mm_up h.1 x i.2.1 v, h.2)) else none | _ => none)
  | 66 => (match s with | .inr (some v) :: .inr (some x) :: s => if mm_ok x h.2.2.1 1 i.2.2.1 then some (l, s, (h.1, mm_up h.2.1 x i.2.1 v, h.2.2)) else none | _ => none)
  | 67 => if i.2.1 = 0 then some (l, zR (91, 0, 0) :: s, h) else if i.2.1 = 1 then some (l, zR (94, 0, 0) :: s, h) else if i.2.1 = 2 then some (l, zI 1 :: s, h) else some (l, zU :: s, h)
  | _ => none
def mm_x4 (i : mm_I) (l s : List mm_V) (h : mm_H) : mm_R := match i.1 with
  | 70 => (match s with | .inl (.inl j) :: .inr (some x) :: s => if mm_in x h.2.2.1 2 j then some (l, zI (h.1 x j) :: s, h) else if mm_SH x = (10, 0) ∧ 0 ≤ j ∧ j < h.1 x (-1) then some (l, zI (h.1 x j) :: s, h) else if mm_SH x = (12, 47) ∧ 0 ≤ j ∧ j < 47 then some (l, zI (mm_ro x j) :: s, h) else none | _ => none)
  | 71 => (match s with | .inl (.inl j) :: .inr (some x) :: s => if mm_in x h.2.2.1 3 j ∨ mm_in x h.2.2.1 4 j then some (l, zI (h.1 x j) :: s, h) else if mm_SH x = (15, 0) ∧ 0 ≤ j ∧ j < mm_sl x.2.1 then some (l, zI (mm_sc x.2.1 j) :: s, h) else none | _ => none)
  | 72 => (match s with | .inl (.inl j) :: .inr (some x) :: s => if mm_in x h.2.2.1 5 j then some (l, zL (h.1 x j) :: s, h) else none | _ => none)
  | 73 => (match s with | .inl (.inl j) :: .inr (some x) :: s => if mm_SH x = (11, 47) ∧ 0 ≤ j ∧ j < 47 then some (l, zR (mm_ror x j) :: s, h) else if 6 ≤ (mm_SH x).1 ∧ (mm_SH x).1 ≤ 9 ∧ mm_in x h.2.2.1 (mm_SH x).1 j then some (l, zR (h.2.1 x j) :: s, h) else none | _ => none)
  | 74 => (match s with | .inl (.inl v) :: .inl (.inl j) :: .inr (some x) :: s => if mm_in x h.2.2.1 2 j then some (l, s, (mm_up h.1 x j v, h.2)) else none | _ => none)
  | 75 => (match s with | .inl (.inl v) :: .inl (.inl j) :: .inr (some x) :: s => if mm_in x h.2.2.1 3 j then some (l, s, (mm_up h.1 x j (mm_b v), h.2)) else if mm_in x h.2.2.1 4 j ∧ (v = 0 ∨ v = 1) then some (l, s, (mm_up h.1 x j v, h.2)) else none | _ => none)
  | 76 => (match s with | .inl (.inr v) :: .inl (.inl j) :: .inr (some x) :: s => if mm_in x h.2.2.1 5 j then some (l, s, (mm_up h.1 x j v, h.2)) else none | _ => none)
  | 77 => (match s with | .inr (some v) :: .inl (.inl j) :: .inr (some x) :: s => if 6 ≤ (mm_SH x).1 ∧ (mm_SH x).1 ≤ 9 ∧ mm_in x h.2.2.1 (mm_SH x).1 j ∧ mm_ok v h.2.2.1 1 (mm_ec (mm_SH x).1 : Int) then some (l, s, (h.1, mm_up h.2.1 x j v, h.2.2)) else none | _ => none)
  | 78 => (match s with | .inr (some x) :: s => if (mm_SH x).1 = 10 then some (l, zI (h.1 x (-1)) :: s, h) else if mm_SH x = (15, 0) then some (l, zI (mm_sl x.2.1) :: s, h) else if 2 ≤ (mm_SH x).1 ∧ (mm_SH x).1 ≤ 9 ∧ mm_lv x h.2.2.1 ∨ mm_SH x = (11, 47) then some (l, zI (mm_SH x).2 :: s, h) else none | _ => none)
  | _ => none
def mm_wt : mm_V → Nat
  | .inl (.inr _) => 2
  | _ => 1
/-- how many fields a cls has -/
def mm_nf (c : Nat) : Int := ((mm_ft.getD c []).length : Int)
def mm_x5 (i : mm_I) (l s : List mm_V) (h : mm_H) : mm_R := match i.1 with
  | 80 => if mm_SH (mm_be h.2.2.1) = (1, (i.2.1 : Int)) ∧ i.2.1 < 10 then some (l, zR (mm_be h.2.2.1) :: s, (h.1, h.2.1, h.2.2.1 + 1, h.2.2.2 + mm_nf i.2.1)) else none
  | 81 => (match s with | .inl (.inl n) :: s => if mm_SH (mm_be h.2.2.1) = (i.2.1, n) ∧ 2 ≤ i.2.1 ∧ i.2.1 ≤ 5 ∧ 0 ≤ n then some (l, zR (mm_be h.2.2.1) :: s, (h.1, h.2.1, h.2.2.1 + 1, h.2.2.2 + n)) else none | _ => none)
  | 82 => (match s with | .inl (.inl n) :: s => if mm_SH (mm_be h.2.2.1) = (i.2.1, n) ∧ 6 ≤ i.2.1 ∧ i.2.1 ≤ 9 ∧ 0 ≤ n then some (l, zR (mm_be h.2.2.1) :: s, (h.1, h.2.1, h.2.2.1 + 1, h.2.2.2 + n)) else none | _ => none)
  | 98 => (match s with | .inl (.inl y) :: .inl (.inl x) :: s => if (s.map mm_wt).sum ≤ 8 then some (l, zI (if x < y then y else x) :: s, h) else none | _ => none)
  | 99 => (match s with | .inl (.inl y) :: .inl (.inl x) :: s => if (s.map mm_wt).sum ≤ 8 then some (l, zI (if y < x then y else x) :: s, h) else none | _ => none)
  | 96 => (match s with | .inr (some x) :: s => if mm_SH x = (13, 11) ∧ (s.map mm_wt).sum ≤ 8 then some (l, zI x.2.1 :: s, h) else none | _ => none)
  | 97 => (match s with | [.inr (some x)] => if x = mm_nul then none else some (l, [], h) | _ => none)
  | 95 => (match s with | [.inl (.inl n), .inl (.inl dp), .inr (some y), .inl (.inl sp), .inr (some x)] =>  if ((mm_SH x).1 = 2 ∨ (mm_SH x).1 = 3) ∧ (mm_SH y).1 = (mm_SH x).1 ∧ mm_lv x h.2.2.1 ∧ mm_lv y h.2.2.1 ∧ 0 ≤ n ∧ 0 ≤ sp ∧ 0 ≤ dp ∧ sp + n ≤ (mm_SH x).2 ∧ dp + n ≤ (mm_SH y).2 then some (l, [], (mm_cp h.1 x sp y dp n, h.2)) else none | _ => none)
  | _ => none
/-- a row that goes straight on -/
def mm_x (i : mm_I) (l s : List mm_V) (h : mm_H) : mm_R :=
  if i.1 < 10 then mm_x1 i l s h else if i.1 < 35 then mm_x2 i l s h else if i.1 < 40 then mm_x1 i l s h else if i.1 < 70 then mm_x3 i l s h else if i.1 < 80 then mm_x4 i l s h else mm_x5 i l s h
def mm_blk (y b : Nat) : List mm_I := (((mm_code.getD y []).map (fun q => q.2)).getD b [])
/-- a row that may go elsewhere: to a block, or on -/
def mm_j (i : mm_I) (s : List mm_V) : Option (Option Nat × List mm_V) := match i.1 with
  | 0 => some (some i.2.1, s)
  | 40 => (match s with | .inl (.inl x) :: s => some (if x = 0 then some i.2.1 else none, s) | _ => none)
  | 41 => (match s with | .inl (.inl x) :: s => some (if x = 0 then none else some i.2.1, s) | _ => none)
  | 42 => (match s with | .inl (.inl x) :: s => some (if x < 0 then some i.2.1 else none, s) | _ => none)
  | 43 => (match s with | .inl (.inl x) :: s => some (if x < 0 then none else some i.2.1, s) | _ => none)
  | 44 => (match s with | .inl (.inl x) :: s => some (if 0 < x then some i.2.1 else none, s) | _ => none)
  | 45 => (match s with | .inl (.inl x) :: s => some (if 0 < x then none else some i.2.1, s) | _ => none)
  | 46 => (match s with | .inl (.inl y) :: .inl (.inl x) :: s => some (if x = y then some i.2.1 else none, s) | _ => none)
  | 47 => (match s with | .inl (.inl y) :: .inl (.inl x) :: s => some (if x = y then none else some i.2.1, s) | _ => none)
  | 48 => (match s with | .inl (.inl y) :: .inl (.inl x) :: s => some (if x < y then some i.2.1 else none, s) | _ => none)
  | 49 => (match s with | .inl (.inl y) :: .inl (.inl x) :: s => some (if x < y then none else some i.2.1, s) | _ => none)
  | 50 => (match s with | .inl (.inl y) :: .inl (.inl x) :: s => some (if y < x then some i.2.1 else none, s) | _ => none)
  | 51 => (match s with | .inl (.inl y) :: .inl (.inl x) :: s => some (if y < x then none else some i.2.1, s) | _ => none)
  | 52 => (match s with | .inr (some y) :: .inr (some x) :: s => if (x = mm_nul ∨ mm_SH x ≠ (0, 0) ∧ x.1 < 90) ∧ (y = mm_nul ∨ mm_SH y ≠ (0, 0) ∧ y.1 < 90) then some (if x = y then some i.2.1 else none, s) else none | _ => none)
  | 53 => (match s with | .inr (some y) :: .inr (some x) :: s => if (x = mm_nul ∨ mm_SH x ≠ (0, 0) ∧ x.1 < 90) ∧ (y = mm_nul ∨ mm_SH y ≠ (0, 0) ∧ y.1 < 90) then some (if x = y then none else some i.2.1, s) else none | _ => none)
  | 54 => (match s with | .inr (some x) :: s => some (if x = mm_nul then some i.2.1 else none, s) | _ => none)
  | 55 => (match s with | .inr (some x) :: s => some (if x = mm_nul then none else some i.2.1, s) | _ => none)
  | 56 => some (some i.2.1, s)
  | 57 => (match s with | .inl (.inl x) :: s => (match mm_swt[i.2.1]? with | some t => some (some (if t.1 ≤ x ∧ x < t.1 + t.2.1.length then t.2.1.getD (x - t.1).toNat 0 else t.2.2), s) | none => none) | _ => none)
  | _ => none
def mm_n (y : Nat) : Nat := match mm_tab[y]? with | some q => q.2.2.2.2.1 | none => 0
def mm_mL (y : Nat) : Nat := match mm_tab[y]? with | some q => q.2.2.1 | none => 0
def mm_ent1 : List mm_V → List mm_V
  | [] => []
  | .inl (.inr x) :: r => zL x :: zU :: mm_ent1 r
  | v :: r => v :: mm_ent1 r
def mm_ent (y : Nat) (a : List mm_V) : List mm_V := mm_ent1 a ++ List.replicate (mm_mL y - (mm_ent1 a).length) zU
def mm_push (v : mm_V) (s : List mm_V) : List mm_V := match v with
  | .inr none => s
  | v => v :: s
/-- a call's arguments (the receiver first), and the rest of the stack -/
def mm_cl (i : mm_I) (s : List mm_V) (h : mm_H) : Option (List mm_V × List mm_V) :=
  if (((s.drop (mm_n i.2.1)).map mm_wt).sum ≤ 8 ∧ mm_n i.2.1 ≤ s.length ∧ (mm_ent1 (s.take (mm_n i.2.1)).reverse).length ≤ mm_mL i.2.1) then
    (if i.1 = 85 then some ((s.take (mm_n i.2.1)).reverse, s.drop (mm_n i.2.1))
     else match (s.take (mm_n i.2.1)).reverse with
      | .inr (some x) :: r => if mm_ok x h.2.2.1 1 i.2.2.1 ∨ i.2.2.1 = 20 ∧ mm_SH x = (14, 0) ∨ i.2.2.1 = 21 ∧ mm_SH x = (13, 11) then some (zR x :: r, s.drop (mm_n i.2.1)) else none
      | _ => none)
  else none
def mm_rt (i : mm_I) (s : List mm_V) : Option mm_V := match i.1 with
  | 90 => (match s with | [.inl (.inl x)] => some (zI x) | _ => none)
  | 91 => (match s with | [.inl (.inr x)] => some (zL x) | _ => none)
  | 92 => (match s with | [.inr (some x)] => some (zR x) | _ => none)
  | 93 => (match s with | [] => some zU | _ => none)
  | 94 => (match s with | [.inl (.inl x)] => if i.2.1 = 0 ∧ (x = 0 ∨ x = 1) ∨ i.2.1 = 1 ∧ -128 ≤ x ∧ x < 128 ∨ i.2.1 = 2 ∧ 0 ≤ x ∧ x < 65536 then some (zI x) else none | _ => none)
  | _ => none
def mm_run : Nat → Nat → List mm_I → List mm_V → List mm_V → mm_H → Option (mm_V × mm_H)
  | 0, _, _, _, _, _ => none
  | _ + 1, _, [], _, _, _ => none
  | f + 1, y, i :: is, l, s, h =>
    if i.1 = 0 ∨ 40 ≤ i.1 ∧ i.1 < 60 then
      (match mm_j i s with
       | some (some b, s1) => mm_run f y (mm_blk y b) l s1 h
       | some (none, s1) => mm_run f y is l s1 h
       | none => none)
    else if 85 ≤ i.1 ∧ i.1 < 89 then
      (match mm_cl i s h with
       | some (a, s1) => (match mm_run f i.2.1 (mm_blk i.2.1 0) (mm_ent i.2.1 a) [] h with
         | some (v, h1) => mm_run f y is l (mm_push v s1) h1
         | none => none)
       | none => none)
    else if 90 ≤ i.1 ∧ i.1 < 95 then (match mm_rt i s with | some v => some (v, h) | none => none)
    else (match mm_x i l s h with
      | some r => mm_run f y is r.1 r.2.1 r.2.2
      | none => none)

