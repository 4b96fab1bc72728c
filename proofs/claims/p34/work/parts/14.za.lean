/-! the model: its answers -/
def zCN (z : Z) (c w : Int) : Int :=
  if w = 0 ∨ w = 1 ∨ w = 8 then z (59 + 9 * c + w) else if w = 2 then z (59 + 9 * c + 2) - 1 else if w = 3 then (if zLs z c then z (59 + 9 * c + 3) else 0) else if w = 4 then z (59 + 9 * c + 4) - 1
  else if w = 5 then (if 0 < wr (z (59 + 9 * c + 4)) then z (59 + 9 * c + 5) else 0) else if w = 6 then bI (zOw z c) else z (59 + 9 * c + 6) - 1
def zTN (z : Z) (t w : Int) : Int :=
  if w = 0 then z (23 + 3 * t + 0) else if w = 1 then zCof z t false else if w = 2 then zCof z t true else if w = 3 then z (23 + 3 * t + 1) else if w = 4 then z (23 + 3 * t + 2) else zWq z t
def zIN (z : Z) (i w : Int) : Int :=
  if w = 0 ∨ w = 1 ∨ w = 2 then z (41 + 6 * i + w) else if w = 3 then zPol z i else if w = 4 then z (41 + 6 * i + 3) else if w = 5 then z (41 + 6 * i + 5) else z (41 + 6 * i + 4)
def zCnt (z : Z) (s w : Int) : Int :=
  if w = 4 then zCW z 2 else if w = 5 then zCW z 4 else if w = 6 then zOwN z else if w = 7 then zCW z 0 else if w = 18 then s else if w < 4 then z w else z (w - 4)
def zRN (z : Z) (c w : Int) : Int :=
  if w = 0 then z (59 + 9 * c + 0) else if w = 1 then zDis z c 0 else if w = 2 then zHeat z (z (15 + 2)) else if w = 3 then zWorn z c else zDis z c 1
