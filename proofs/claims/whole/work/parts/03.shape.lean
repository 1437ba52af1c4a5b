/-! the cells, numbered as they are made: 0 .. 84 by the two constructors, from 85 on arrays of ints that grew -/
def em_k (k : Nat) : Nat := bif Nat.blt k 85 then (bif Nat.blt k 42 then (bif Nat.blt k 21 then (bif Nat.blt k 10 then (bif Nat.blt k 5 then (bif Nat.blt k 2 then (bif Nat.blt k 1 then 7 else 3) else 9) else 9) else (bif Nat.blt k 15 then (bif Nat.blt k 12 then 9 else (bif Nat.blt k 13 then 0 else 9)) else (bif Nat.blt k 18 then (bif Nat.blt k 16 then 6 else 9) else 9))) else (bif Nat.blt k 31 then (bif Nat.blt k 26 then (bif Nat.blt k 23 then (bif Nat.blt k 22 then 1 else 9) else 9) else (bif Nat.blt k 28 then 9 else (bif Nat.blt k 29 then 5 else (bif Nat.blt k 30 then 9 else 12)))) else (bif Nat.blt k 36 then (bif Nat.blt k 33 then (bif Nat.blt k 32 then 4 else 9) else (bif Nat.blt k 34 then 4 else (bif Nat.blt k 35 then 9 else 4))) else (bif Nat.blt k 39 then (bif Nat.blt k 37 then 9 else (bif Nat.blt k 38 then 4 else 9)) else (bif Nat.blt k 40 then 4 else (bif Nat.blt k 41 then 9 else 4)))))) else (bif Nat.blt k 63 then (bif Nat.blt k 52 then (bif Nat.blt k 47 then (bif Nat.blt k 44 then (bif Nat.blt k 43 then 9 else 4) else (bif Nat.blt k 45 then 9 else (bif Nat.blt k 46 then 4 else 9))) else (bif Nat.blt k 49 then (bif Nat.blt k 48 then 4 else 9) else (bif Nat.blt k 50 then 2 else (bif Nat.blt k 51 then 11 else 10)))) else (bif Nat.blt k 57 then (bif Nat.blt k 54 then (bif Nat.blt k 53 then 10 else 8) else 9) else 9)) else (bif Nat.blt k 74 then (bif Nat.blt k 68 then (bif Nat.blt k 65 then 9 else (bif Nat.blt k 66 then 9 else (bif Nat.blt k 67 then 9 else 11))) else (bif Nat.blt k 71 then (bif Nat.blt k 69 then 9 else 11) else 9)) else (bif Nat.blt k 79 then 9 else (bif Nat.blt k 82 then (bif Nat.blt k 80 then 9 else (bif Nat.blt k 81 then 11 else 9)) else (bif Nat.blt k 83 then 11 else 10)))))) else 9
def em_lS (k : Nat) : Nat := (bif Nat.blt k 42 then (bif Nat.blt k 21 then (bif Nat.blt k 10 then (bif Nat.blt k 5 then (bif Nat.blt k 2 then 0 else (bif Nat.blt k 3 then 8 else (bif Nat.blt k 4 then 8 else 40))) else (bif Nat.blt k 7 then 40 else 200)) else (bif Nat.blt k 15 then (bif Nat.blt k 12 then (bif Nat.blt k 11 then 40 else 401) else (bif Nat.blt k 13 then 0 else (bif Nat.blt k 14 then 401 else 96))) else (bif Nat.blt k 18 then (bif Nat.blt k 16 then 0 else (bif Nat.blt k 17 then 40 else 8)) else (bif Nat.blt k 19 then 8 else (bif Nat.blt k 20 then 8 else 256))))) else (bif Nat.blt k 31 then (bif Nat.blt k 26 then (bif Nat.blt k 23 then (bif Nat.blt k 22 then 0 else 8) else (bif Nat.blt k 24 then 8 else (bif Nat.blt k 25 then 8 else 64))) else (bif Nat.blt k 28 then 8 else (bif Nat.blt k 29 then 0 else (bif Nat.blt k 30 then 200 else 8)))) else (bif Nat.blt k 36 then (bif Nat.blt k 33 then (bif Nat.blt k 32 then 0 else 6) else (bif Nat.blt k 34 then 0 else (bif Nat.blt k 35 then 6 else 0))) else (bif Nat.blt k 39 then (bif Nat.blt k 37 then 6 else (bif Nat.blt k 38 then 0 else 6)) else (bif Nat.blt k 40 then 0 else (bif Nat.blt k 41 then 6 else 0)))))) else (bif Nat.blt k 63 then (bif Nat.blt k 52 then (bif Nat.blt k 47 then (bif Nat.blt k 44 then (bif Nat.blt k 43 then 6 else 0) else (bif Nat.blt k 45 then 6 else (bif Nat.blt k 46 then 0 else 6))) else (bif Nat.blt k 49 then (bif Nat.blt k 48 then 0 else 6) else (bif Nat.blt k 50 then 0 else 64))) else (bif Nat.blt k 57 then (bif Nat.blt k 54 then (bif Nat.blt k 53 then 64 else 0) else (bif Nat.blt k 55 then 8 else (bif Nat.blt k 56 then 8 else 40))) else (bif Nat.blt k 60 then 40 else 200))) else (bif Nat.blt k 74 then (bif Nat.blt k 68 then (bif Nat.blt k 65 then (bif Nat.blt k 64 then 402 else 256) else (bif Nat.blt k 66 then 256 else (bif Nat.blt k 67 then 256 else 64))) else (bif Nat.blt k 71 then (bif Nat.blt k 69 then 8 else (bif Nat.blt k 70 then 8 else 64)) else 8)) else (bif Nat.blt k 79 then (bif Nat.blt k 76 then (bif Nat.blt k 75 then 64 else 8) else (bif Nat.blt k 77 then 8 else (bif Nat.blt k 78 then 220 else 8))) else (bif Nat.blt k 82 then (bif Nat.blt k 80 then 40 else (bif Nat.blt k 81 then 8 else 5)) else 64)))))
def em_ty (c : Nat) : Nat → FieldType := match c with
  | 0 => tyX0
  | 1 => tyX1
  | 2 => tyX2
  | 3 => tyX3
  | 4 => tyX4
  | 5 => tyX5
  | 6 => tyX6
  | 7 => tyX7
  | _ => tyX8
def em_nf (c : Nat) : Nat := match c with
  | 0 => 4
  | 1 => 13
  | 2 => 5
  | 3 => 13
  | 4 => 2
  | 5 => 2
  | 6 => 6
  | 7 => 8
  | _ => 44
theorem em_k_dyn {k : Nat} (h : 85 ≤ k) : em_k k = 9 := by
  have h1 : Nat.blt k 85 = false := by
    cases hb : Nat.blt k 85 with
    | false => rfl
    | true => have := Nat.le_of_ble_eq_true hb; omega
  simp [em_k, h1]
