/-! what the document says, as values: lines a x + b y + c = 0 by three functions and how many there are -/
/-- the cuts that line i brings with the lines 0 .. j - 1 -/
def cutJ (a b c : Nat → Int) (i : Nat) : Nat → List Fr → List Fr
  | 0, L => L
  | j + 1, L => if a i * b j - a j * b i = 0 then cutJ a b c i j L else fins (fred (b i * c j - b j * c i) (a i * b j - a j * b i)) (cutJ a b c i j L)
/-- the cuts of the lines 0 .. i - 1 -/
def cutI (a b c : Nat → Int) : Nat → List Fr
  | 0 => []
  | i + 1 => cutJ a b c i i (if b i = 0 then fins (fred (-(c i)) (a i)) (cutI a b c i) else cutI a b c i)
/-- the height of line k at x -/
def hgt (a b c : Nat → Int) (x : Fr) (k : Nat) : Fr := fred (-(a k * x.1 + c k * x.2)) (b k * x.2)
/-- the curves of the lines 0 .. k - 1 at x, from below -/
def hts (a b c : Nat → Int) (x : Fr) : Nat → List Fr
  | 0 => []
  | k + 1 => if b k = 0 then hts a b c x k else fins (hgt a b c x k) (hts a b c x k)
/-- the sample of piece s of an axis cut by L -/
def smp (L : List Fr) (s : Nat) : Fr :=
  if L.length = 0 then (0, 1)
  else if s = 0 then fred ((fg L 0).1 - (fg L 0).2) (fg L 0).2
  else if L.length ≤ s / 2 then fred ((fg L (L.length - 1)).1 + (fg L (L.length - 1)).2) (fg L (L.length - 1)).2
  else if s % 2 = 1 then fg L (s / 2)
  else fred ((fg L (s / 2 - 1)).1 * (fg L (s / 2)).2 + (fg L (s / 2)).1 * (fg L (s / 2 - 1)).2) (2 * (fg L (s / 2 - 1)).2 * (fg L (s / 2)).2)
/-- the curves of strip s -/
def crv (a b c : Nat → Int) (n s : Nat) : List Fr := hts a b c (smp (cutI a b c n) s) n
/-- the number of the first cell of strip s -/
def fst' (a b c : Nat → Int) (n : Nat) : Nat → Nat
  | 0 => 0
  | s + 1 => fst' a b c n s + 2 * (crv a b c n s).length + 1
