def f_X5_add_L43 (N : Nat) (t : Nat) : Nat → Int32 → Int32 → Mem → Option (Int32 × Mem)
  | 0, _, _, _ => none
  | n + 1, v1, v2, s =>
    if ((rI s t 3) * (rI s t 0)) ≤ v2 then some (v1, s) else
    if (nI (ln (t + 1))) ≤ v2 then some (v1, s) else
    gin v2 (ln (t + 1)) (
      lt (wI s (t + 1) v2.toNatClampNeg 0) fun s1 =>
      f_X5_add_L43 N t n v1 (v2 + 1) s1)
def f_X5_add (N : Nat) (t : Nat) (s : Mem) : Option (Int32 × Mem) :=
  if (rI s t 3) < 0 then some ((-3), s) else
  if (rI s t 3) < (rI s t 1) then (
    lt (wI s t 3 ((rI s t 3) + 1)) fun s1 =>
    f_X5_add_L43 N t N (rI s t 3) ((rI s t 3) * (rI s1 t 0)) s1)
  else
  some ((-3), s)

def f_X5_set (N : Nat) (t : Nat) (a1 : Int32) (a2 : Int32) (a3 : Int32) (s : Mem) : Option (Unit × Mem) :=
  if a1 < 0 then some ((), s) else
  if (rI s t 3) ≤ a1 then some ((), s) else
  if a2 < 0 then some ((), s) else
  if a2 < (rI s t 0) then (
    if (nI (ln (t + 1))) ≤ ((a1 * (rI s t 0)) + a2) then some ((), s) else
    gin ((a1 * (rI s t 0)) + a2) (ln (t + 1)) (
      lt (wI s (t + 1) ((a1 * (rI s t 0)) + a2).toNatClampNeg a3) fun s1 =>
      some ((), s1)))
  else
  some ((), s)

def f_X5_become (N : Nat) (t : Nat) (u : Nat) (s : Mem) : Option (Unit × Mem) :=
  gcp 0 (ln (u + 1)) 0 (ln (t + 1)) (imin (nI (ln (t + 1))) (nI (ln (u + 1)))) (
    lt (cpI s (u + 1) (0 : Int32).toNatClampNeg (t + 1) (0 : Int32).toNatClampNeg (imin (nI (ln (t + 1))) (nI (ln (u + 1)))).toNatClampNeg) fun s1 =>
    lt (wI s1 t 3 (imin (rI s1 u 3) (rI s1 t 1))) fun s2 =>
    some ((), s2))

def f_X5_get (N : Nat) (t : Nat) (a1 : Int32) (a2 : Int32) (s : Mem) : Option (Int32 × Mem) :=
  if a1 < 0 then some (0, s) else
  if (rI s t 3) ≤ a1 then some (0, s) else
  if a2 < 0 then some (0, s) else
  if a2 < (rI s t 0) then (
    if (nI (ln (t + 1))) ≤ ((a1 * (rI s t 0)) + a2) then some (0, s) else
    gin ((a1 * (rI s t 0)) + a2) (ln (t + 1)) (some ((rI s (t + 1) ((a1 * (rI s t 0)) + a2).toNatClampNeg), s)))
  else
  some (0, s)

def f_X0_isTruthTold (N : Nat) (a1 : Int32) (s : Mem) : Option (Bool × Mem) :=
  bnd (f_X5_get N 2 a1 3 s) fun r1 s1 =>
  if r1 < 0 then some (false, s1) else
  some (true, s1)

def f_X5_has (N : Nat) (t : Nat) (a1 : Int32) (s : Mem) : Option (Bool × Mem) :=
  if a1 < 0 then some (false, s) else
  if (rI s t 3) ≤ a1 then some (false, s) else
  some (true, s)

def f_X0_isOf (N : Nat) (a1 : Int32) (a2 : Int32) (s : Mem) : Option (Bool × Mem) :=
  bnd (f_X5_has N 4 a1 s) fun r1 s1 =>
  if r1 = true then (
    bnd (f_X5_get N 4 a1 0 s1) fun r2 s2 =>
    if r2 = a2 then some (true, s2) else
    some (false, s2))
  else
  some (false, s1)

def f_X8_bit (N : Nat) (a0 : Int32) (s : Mem) : Option (Int32 × Mem) :=
  some (((1 : Int32) <<< (a0 &&& 31)), s)

def f_X0_paperBitsOf_j31 (N : Nat) (k4 : Int32 → Int32 → Int32 → Mem → Option (Int32 × Mem)) (v1 : Int32) (v2 : Int32) (v3 : Int32) (s : Mem) : Option (Int32 × Mem) :=
  k4 v1 v2 (v3 + 1) s
def f_X0_paperBitsOf_L4 (N : Nat) : Nat → Int32 → Int32 → Int32 → Mem → Option (Int32 × Mem)
  | 0, _, _, _, _ => none
  | n + 1, v1, v2, v3, s =>
    if (rI s 4 3) ≤ v3 then some (v2, s) else
    bnd (f_X0_isOf N v3 v1 s) fun r1 s1 =>
    if r1 = true then (
      bnd (f_X8_bit N v3 s1) fun r2 s2 =>
      f_X0_paperBitsOf_j31 N (f_X0_paperBitsOf_L4 N n) v1 (v2 ||| r2) v3 s2)
    else
    f_X0_paperBitsOf_j31 N (f_X0_paperBitsOf_L4 N n) v1 v2 v3 s1
def f_X0_paperBitsOf (N : Nat) (a1 : Int32) (s : Mem) : Option (Int32 × Mem) :=
  f_X0_paperBitsOf_L4 N N a1 0 0 s

def f_J6_bitCount_0f7a4 (N : Nat) (a0 : Int32) (s : Mem) : Option (Int32 × Mem) :=
  lt (a0 - (((a0.toUInt32 >>> ((1 : Int32).toUInt32 &&& Int32.toUInt32 31)).toInt32) &&& 1431655765)) fun x1 =>
  lt ((x1 &&& 858993459) + (((x1.toUInt32 >>> ((2 : Int32).toUInt32 &&& Int32.toUInt32 31)).toInt32) &&& 858993459)) fun x2 =>
  lt ((x2 + ((x2.toUInt32 >>> ((4 : Int32).toUInt32 &&& Int32.toUInt32 31)).toInt32)) &&& 252645135) fun x3 =>
  lt (x3 + ((x3.toUInt32 >>> ((8 : Int32).toUInt32 &&& Int32.toUInt32 31)).toInt32)) fun x4 =>
  lt (x4 + ((x4.toUInt32 >>> ((16 : Int32).toUInt32 &&& Int32.toUInt32 31)).toInt32)) fun x5 =>
  some ((x5 &&& 63), s)

def f_X0_papersOf (N : Nat) (a1 : Int32) (s : Mem) : Option (Int32 × Mem) :=
  bnd (f_X0_paperBitsOf N a1 s) fun r1 s1 =>
  bnd (f_J6_bitCount_0f7a4 N r1 s1) fun r2 s2 =>
  some (r2, s2)

def f_X0_nextPaperOf_L21 (N : Nat) : Nat → Int32 → Int32 → Mem → Option (Int32 × Mem)
  | 0, _, _, _ => none
  | n + 1, v1, v4, s =>
    if (rI s 4 3) ≤ v4 then some ((-3), s) else
    bnd (f_X0_isOf N v4 v1 s) fun r1 s1 =>
    if r1 = true then some (v4, s1) else
    f_X0_nextPaperOf_L21 N n v1 (v4 + 1) s1
def f_X0_nextPaperOf_j13 (N : Nat) (v1 : Int32) (p0 : Int32) (s : Mem) : Option (Int32 × Mem) :=
  f_X0_nextPaperOf_L21 N N v1 (imax 0 p0) s
def f_X0_nextPaperOf (N : Nat) (a1 : Int32) (a2 : Int32) (s : Mem) : Option (Int32 × Mem) :=
  if a2 = (-3) then f_X0_nextPaperOf_j13 N a1 0 s else
  f_X0_nextPaperOf_j13 N a1 (a2 + 1) s

def f_X0_seen_j55 (N : Nat) (k4 : Int32 → Int32 → Int32 → Mem → Option (Int32 × Mem)) (v1 : Int32) (v2 : Int32) (v3 : Int32) (s : Mem) : Option (Int32 × Mem) :=
  k4 v1 v2 (v3 + 1) s
def f_X0_seen_L4 (N : Nat) : Nat → Int32 → Int32 → Int32 → Mem → Option (Int32 × Mem)
  | 0, _, _, _, _ => none
  | n + 1, v1, v2, v3, s =>
    if (rI s 4 3) ≤ v3 then some (v2, s) else
    bnd (f_X0_isOf N v3 v1 s) fun r1 s1 =>
    if r1 = true then (
      bnd (f_X5_get N 4 v3 1 s1) fun r2 s2 =>
      if r2 = 6 then f_X0_seen_j55 N (f_X0_seen_L4 N n) v1 v2 v3 s2 else
      bnd (f_X5_get N 4 v3 2 s2) fun r3 s3 =>
      f_X0_seen_j55 N (f_X0_seen_L4 N n) v1 (imax v2 r3) v3 s3)
    else
    f_X0_seen_j55 N (f_X0_seen_L4 N n) v1 v2 v3 s1
def f_X0_seen (N : Nat) (a1 : Int32) (s : Mem) : Option (Int32 × Mem) :=
  f_X0_seen_L4 N N a1 0 0 s

def f_X0_isNear (N : Nat) (a0 : Int32) (a1 : Int32) (a2 : Int32) (s : Mem) : Option (Bool × Mem) :=
  if a0 < (a1 - a2) then some (false, s) else
  if (a1 + a2) < a0 then some (false, s) else
  some (true, s)

def f_X0_leewayOf (N : Nat) (a0 : Int32) (s : Mem) : Option (Int32 × Mem) :=
  if (a0 - a0 / 10 * 10) = 0 then some (5, s) else
  if (a0 - a0 / 10 * 10) = 5 then some (2, s) else
  some (1, s)

def f_X0_placesApart_j37 (N : Nat) (v0 : Int32) (v1 : Int32) (v2 : Int32) (s : Mem) : Option (Int32 × Mem) :=
  if (v0 / 100) = (v1 / 100) then some (v2, s) else
  some ((v2 + 1), s)
def f_X0_placesApart_j16 (N : Nat) (v0 : Int32) (v1 : Int32) (p0 : Bool) (s : Mem) : Option (Int32 × Mem) :=
  if ((v0 / 10) - (v0 / 10) / 10 * 10) = ((v1 / 10) - (v1 / 10) / 10 * 10) then f_X0_placesApart_j37 N v0 v1 (bI p0) s else
  f_X0_placesApart_j37 N v0 v1 ((bI p0) + 1) s
def f_X0_placesApart (N : Nat) (a0 : Int32) (a1 : Int32) (s : Mem) : Option (Int32 × Mem) :=
  if (a0 - a0 / 10 * 10) = (a1 - a1 / 10 * 10) then f_X0_placesApart_j16 N a0 a1 false s else
  f_X0_placesApart_j16 N a0 a1 true s

def f_X0_isInSpan_j132 (N : Nat) (s : Mem) : Option (Bool × Mem) :=
  some (true, s)
def f_X0_isInSpan (N : Nat) (a1 : Int32) (a2 : Int32) (s : Mem) : Option (Bool × Mem) :=
  bnd (f_X5_get N 4 a1 2 s) fun r1 s1 =>
  bnd (f_X5_get N 4 a1 3 s1) fun r2 s2 =>
  if a2 ≤ r1 then (
    bnd (f_X5_get N 4 a1 1 s2) fun r3 s3 =>
    if r3 = 1 then (
      if a2 = r2 then some (true, s3) else
      some (false, s3))
    else
    if r3 = 2 then (
      bnd (f_X0_isNear N a2 r2 1 s3) fun r4 s4 =>
      some (r4, s4))
    else
    if r3 = 3 then (
      bnd (f_X0_leewayOf N r2 s3) fun r5 s5 =>
      bnd (f_X0_isNear N a2 (r1 - r2) r5 s5) fun r6 s6 =>
      some (r6, s6))
    else
    if r3 = 4 then (
      if a2 = (r1 - r2) then f_X0_isInSpan_j132 N s3 else
      if a2 = ((r1 - r2) - 1) then f_X0_isInSpan_j132 N s3 else
      some (false, s3))
    else
    if r3 = 5 then (
      bnd (f_X0_placesApart N a2 r2 s3) fun r7 s7 =>
      if 1 < r7 then some (false, s7) else
      some (true, s7))
    else
    if r3 = 6 then (
      if (r1 - r2) < a2 then some (false, s3) else
      some (true, s3))
    else
    if r3 = 7 then (
      if (r2 - 5) < a2 then some (false, s3) else
      some (true, s3))
    else
    some (false, s3))
  else
  some (false, s2)

def f_X0_isInSpans_j33 (N : Nat) (k2 : Int32 → Int32 → Int32 → Mem → Option (Bool × Mem)) (v1 : Int32) (v2 : Int32) (v3 : Int32) (s : Mem) : Option (Bool × Mem) :=
  k2 v1 v2 (v3 + 1) s
def f_X0_isInSpans_L2 (N : Nat) : Nat → Int32 → Int32 → Int32 → Mem → Option (Bool × Mem)
  | 0, _, _, _, _ => none
  | n + 1, v1, v2, v3, s =>
    if (rI s 4 3) ≤ v3 then some (true, s) else
    bnd (f_X0_isOf N v3 v1 s) fun r1 s1 =>
    if r1 = true then (
      bnd (f_X0_isInSpan N v3 v2 s1) fun r2 s2 =>
      if r2 = true then f_X0_isInSpans_j33 N (f_X0_isInSpans_L2 N n) v1 v2 v3 s2 else
      some (false, s2))
    else
    f_X0_isInSpans_j33 N (f_X0_isInSpans_L2 N n) v1 v2 v3 s1
def f_X0_isInSpans (N : Nat) (a1 : Int32) (a2 : Int32) (s : Mem) : Option (Bool × Mem) :=
  f_X0_isInSpans_L2 N N a1 a2 0 s

def f_X0_placeByMade_j74 (N : Nat) (k16 : Int32 → Int32 → Int32 → Int32 → Int32 → Mem → Option (Int32 × Mem)) (v1 : Int32) (v2 : Int32) (v3 : Int32) (v4 : Int32) (v5 : Int32) (s : Mem) : Option (Int32 × Mem) :=
  k16 v1 v2 v3 v4 (v5 + 1) s
def f_X0_placeByMade_j71 (N : Nat) (k16 : Int32 → Int32 → Int32 → Int32 → Int32 → Mem → Option (Int32 × Mem)) (v1 : Int32) (v2 : Int32) (v3 : Int32) (v4 : Int32) (v5 : Int32) (s : Mem) : Option (Int32 × Mem) :=
  f_X0_placeByMade_j74 N k16 v1 v2 v3 (v4 + 1) v5 s
def f_X0_placeByMade_L16 (N : Nat) : Nat → Int32 → Int32 → Int32 → Int32 → Int32 → Mem → Option (Int32 × Mem)
  | 0, _, _, _, _, _, _ => none
  | n + 1, v1, v2, v3, v4, v5, s =>
    if (rI s 4 3) ≤ v5 then some (v4, s) else
    bnd (f_X0_isOf N v5 v2 s) fun r1 s1 =>
    if r1 = true then (
      bnd (f_X5_get N 4 v5 2 s1) fun r2 s2 =>
      if r2 < v3 then f_X0_placeByMade_j71 N (f_X0_placeByMade_L16 N n) v1 v2 v3 v4 v5 s2 else
      if r2 = v3 then (
        if v1 ≤ v5 then f_X0_placeByMade_j74 N (f_X0_placeByMade_L16 N n) v1 v2 v3 v4 v5 s2 else
        f_X0_placeByMade_j71 N (f_X0_placeByMade_L16 N n) v1 v2 v3 v4 v5 s2)
      else
      f_X0_placeByMade_j74 N (f_X0_placeByMade_L16 N n) v1 v2 v3 v4 v5 s2)
    else
    f_X0_placeByMade_j74 N (f_X0_placeByMade_L16 N n) v1 v2 v3 v4 v5 s1
def f_X0_placeByMade (N : Nat) (a1 : Int32) (a2 : Int32) (s : Mem) : Option (Int32 × Mem) :=
  bnd (f_X5_get N 4 a1 2 s) fun r1 s1 =>
  f_X0_placeByMade_L16 N N a1 a2 r1 0 0 s1

def f_X0_areAllInSpan_j33 (N : Nat) (k2 : Int32 → Int32 → Int32 → Mem → Option (Bool × Mem)) (v1 : Int32) (v2 : Int32) (v3 : Int32) (s : Mem) : Option (Bool × Mem) :=
  k2 v1 v2 (v3 + 1) s
def f_X0_areAllInSpan_L2 (N : Nat) : Nat → Int32 → Int32 → Int32 → Mem → Option (Bool × Mem)
  | 0, _, _, _, _ => none
  | n + 1, v1, v2, v3, s =>
    if (rI s 4 3) ≤ v3 then some (true, s) else
    bnd (f_X8_bit N v3 s) fun r1 s1 =>
    if (v1 &&& r1) = 0 then f_X0_areAllInSpan_j33 N (f_X0_areAllInSpan_L2 N n) v1 v2 v3 s1 else
    bnd (f_X0_isInSpan N v3 v2 s1) fun r2 s2 =>
    if r2 = true then f_X0_areAllInSpan_j33 N (f_X0_areAllInSpan_L2 N n) v1 v2 v3 s2 else
    some (false, s2)
def f_X0_areAllInSpan (N : Nat) (a1 : Int32) (a2 : Int32) (s : Mem) : Option (Bool × Mem) :=
  f_X0_areAllInSpan_L2 N N a1 a2 0 s

def f_X0_spansMeet_L71 (N : Nat) : Nat → Int32 → Int32 → Mem → Option (Bool × Mem)
  | 0, _, _, _ => none
  | n + 1, v4, v5, s =>
    if 160 < v5 then some (false, s) else
    bnd (f_X0_areAllInSpan N v4 v5 s) fun r1 s1 =>
    if r1 = true then some (true, s1) else
    f_X0_spansMeet_L71 N n v4 (v5 + 1) s1
def f_X0_spansMeet_j68 (N : Nat) (v4 : Int32) (s : Mem) : Option (Bool × Mem) :=
  f_X0_spansMeet_L71 N N v4 0 s
def f_X0_spansMeet_j62 (N : Nat) (k6 : Int32 → Int32 → Int32 → Int32 → Int32 → Mem → Option (Bool × Mem)) (k68 : Int32 → Mem → Option (Bool × Mem)) (v1 : Int32) (v2 : Int32) (v3 : Int32) (v4 : Int32) (v5 : Int32) (s : Mem) : Option (Bool × Mem) :=
  k6 v1 v2 v3 v4 (v5 + 1) s
def f_X0_spansMeet_L6 (N : Nat) (k68 : Int32 → Mem → Option (Bool × Mem)) : Nat → Int32 → Int32 → Int32 → Int32 → Int32 → Mem → Option (Bool × Mem)
  | 0, _, _, _, _, _, _ => none
  | n + 1, v1, v2, v3, v4, v5, s =>
    if (rI s 4 3) ≤ v5 then k68 v4 s else
    bnd (f_X0_isOf N v5 v1 s) fun r1 s1 =>
    if r1 = true then (
      bnd (f_X0_placeByMade N v5 v1 s1) fun r2 s2 =>
      if r2 < v2 then f_X0_spansMeet_j62 N (f_X0_spansMeet_L6 N k68 n) k68 v1 v2 v3 v4 v5 s2 else
      if v3 ≤ r2 then f_X0_spansMeet_j62 N (f_X0_spansMeet_L6 N k68 n) k68 v1 v2 v3 v4 v5 s2 else
      bnd (f_X8_bit N v5 s2) fun r3 s3 =>
      f_X0_spansMeet_j62 N (f_X0_spansMeet_L6 N k68 n) k68 v1 v2 v3 (v4 ||| r3) v5 s3)
    else
    f_X0_spansMeet_j62 N (f_X0_spansMeet_L6 N k68 n) k68 v1 v2 v3 v4 v5 s1
def f_X0_spansMeet (N : Nat) (a1 : Int32) (a2 : Int32) (a3 : Int32) (s : Mem) : Option (Bool × Mem) :=
  f_X0_spansMeet_L6 N (f_X0_spansMeet_j68 N) N a1 a2 a3 0 0 s

def f_X0_restsOn (N : Nat) (a1 : Int32) (s : Mem) : Option (Int32 × Mem) :=
  bnd (f_X5_get N 4 a1 5 s) fun r1 s1 =>
  bnd (f_X5_get N 4 a1 6 s1) fun r2 s2 =>
  bnd (f_X5_has N 4 r1 s2) fun r3 s3 =>
  if r3 = true then (
    bnd (f_X8_bit N r1 s3) fun r4 s4 =>
    some ((r2 ||| r4), s4))
  else
  some ((r2 ||| 0), s3)

def f_X0_restingOnNone_j30 (N : Nat) (k4 : Int32 → Int32 → Mem → Option (Int32 × Mem)) (v1 : Int32) (v2 : Int32) (s : Mem) : Option (Int32 × Mem) :=
  k4 v1 (v2 + 1) s
def f_X0_restingOnNone_L4 (N : Nat) : Nat → Int32 → Int32 → Mem → Option (Int32 × Mem)
  | 0, _, _, _ => none
  | n + 1, v1, v2, s =>
    if (rI s 4 3) ≤ v2 then some (v1, s) else
    bnd (f_X0_restsOn N v2 s) fun r1 s1 =>
    if r1 = 0 then (
      bnd (f_X8_bit N v2 s1) fun r2 s2 =>
      f_X0_restingOnNone_j30 N (f_X0_restingOnNone_L4 N n) (v1 ||| r2) v2 s2)
    else
    f_X0_restingOnNone_j30 N (f_X0_restingOnNone_L4 N n) v1 v2 s1
def f_X0_restingOnNone (N : Nat) (s : Mem) : Option (Int32 × Mem) :=
  f_X0_restingOnNone_L4 N N 0 0 s

def f_X0_standing_j61 (N : Nat) (k4 : Int32 → Int32 → Mem → Option (Int32 × Mem)) (v1 : Int32) (v2 : Int32) (v3 : Int32) (s : Mem) : Option (Int32 × Mem) :=
  if v1 = v3 then some (v1, s) else
  k4 v1 (v2 + 1) s
def f_X0_standing_j55 (N : Nat) (k15 : Int32 → Int32 → Int32 → Int32 → Mem → Option (Int32 × Mem)) (k61 : Int32 → Int32 → Int32 → Mem → Option (Int32 × Mem)) (v1 : Int32) (v2 : Int32) (v3 : Int32) (v4 : Int32) (s : Mem) : Option (Int32 × Mem) :=
  k15 v1 v2 v3 (v4 + 1) s
def f_X0_standing_j47 (N : Nat) (k15 : Int32 → Int32 → Int32 → Int32 → Mem → Option (Int32 × Mem)) (k61 : Int32 → Int32 → Int32 → Mem → Option (Int32 × Mem)) (v1 : Int32) (v2 : Int32) (v3 : Int32) (v4 : Int32) (s : Mem) : Option (Int32 × Mem) :=
  bnd (f_X8_bit N v4 s) fun r1 s1 =>
  f_X0_standing_j55 N k15 k61 (v1 ||| r1) v2 v3 v4 s1
def f_X0_standing_L15 (N : Nat) (k61 : Int32 → Int32 → Int32 → Mem → Option (Int32 × Mem)) : Nat → Int32 → Int32 → Int32 → Int32 → Mem → Option (Int32 × Mem)
  | 0, _, _, _, _, _ => none
  | n + 1, v1, v2, v3, v4, s =>
    if (rI s 4 3) ≤ v4 then k61 v1 v2 v3 s else
    bnd (f_X0_restsOn N v4 s) fun r1 s1 =>
    if r1 = 0 then f_X0_standing_j47 N (f_X0_standing_L15 N k61 n) k61 v1 v2 v3 v4 s1 else
    if (r1 &&& v1) = 0 then f_X0_standing_j55 N (f_X0_standing_L15 N k61 n) k61 v1 v2 v3 v4 s1 else
    f_X0_standing_j47 N (f_X0_standing_L15 N k61 n) k61 v1 v2 v3 v4 s1
def f_X0_standing_L4 (N : Nat) : Nat → Int32 → Int32 → Mem → Option (Int32 × Mem)
  | 0, _, _, _ => none
  | n + 1, v1, v2, s =>
    if 30 < v2 then some (v1, s) else
    f_X0_standing_L15 N (f_X0_standing_j61 N (f_X0_standing_L4 N n)) N v1 v2 v1 0 s
def f_X0_standing (N : Nat) (s : Mem) : Option (Int32 × Mem) :=
  f_X0_standing_L4 N N 0 0 s

def f_X0_restsOver_j57 (N : Nat) (k8 : Int32 → Int32 → Mem → Option (Int32 × Mem)) (v2 : Int32) (v3 : Int32) (v4 : Int32) (s : Mem) : Option (Int32 × Mem) :=
  if v2 = v4 then some (v2, s) else
  k8 v2 (v3 + 1) s
def f_X0_restsOver_j51 (N : Nat) (k20 : Int32 → Int32 → Int32 → Int32 → Mem → Option (Int32 × Mem)) (k57 : Int32 → Int32 → Int32 → Mem → Option (Int32 × Mem)) (v2 : Int32) (v3 : Int32) (v4 : Int32) (v5 : Int32) (s : Mem) : Option (Int32 × Mem) :=
  k20 v2 v3 v4 (v5 + 1) s
def f_X0_restsOver_L20 (N : Nat) (k57 : Int32 → Int32 → Int32 → Mem → Option (Int32 × Mem)) : Nat → Int32 → Int32 → Int32 → Int32 → Mem → Option (Int32 × Mem)
  | 0, _, _, _, _, _ => none
  | n + 1, v2, v3, v4, v5, s =>
    if (rI s 4 3) ≤ v5 then k57 v2 v3 v4 s else
    bnd (f_X8_bit N v5 s) fun r1 s1 =>
    if (v2 &&& r1) = 0 then f_X0_restsOver_j51 N (f_X0_restsOver_L20 N k57 n) k57 v2 v3 v4 v5 s1 else
    bnd (f_X0_restsOn N v5 s1) fun r2 s2 =>
    f_X0_restsOver_j51 N (f_X0_restsOver_L20 N k57 n) k57 (v2 ||| r2) v3 v4 v5 s2
def f_X0_restsOver_L8 (N : Nat) : Nat → Int32 → Int32 → Mem → Option (Int32 × Mem)
  | 0, _, _, _ => none
  | n + 1, v2, v3, s =>
    if 30 ≤ v3 then some (v2, s) else
    f_X0_restsOver_L20 N (f_X0_restsOver_j57 N (f_X0_restsOver_L8 N n)) N v2 v3 v2 0 s
def f_X0_restsOver (N : Nat) (a1 : Int32) (s : Mem) : Option (Int32 × Mem) :=
  bnd (f_X0_restsOn N a1 s) fun r1 s1 =>
  f_X0_restsOver_L8 N N r1 0 s1

def f_X0_paidBehindSeen_j95 (N : Nat) (k11 : Int32 → Int32 → Int32 → Int32 → Mem → Option (Int32 × Mem)) (v1 : Int32) (v2 : Int32) (v3 : Int32) (v4 : Int32) (s : Mem) : Option (Int32 × Mem) :=
  k11 v1 v2 v3 (v4 + 1) s
def f_X0_paidBehindSeen_L11 (N : Nat) : Nat → Int32 → Int32 → Int32 → Int32 → Mem → Option (Int32 × Mem)
  | 0, _, _, _, _, _ => none
  | n + 1, v1, v2, v3, v4, s =>
    if (rI s 8 3) ≤ v4 then some (v3, s) else
    bnd (f_X5_get N 8 v4 0 s) fun r1 s1 =>
    if r1 = v1 then (
      bnd (f_X5_get N 8 v4 1 s1) fun r2 s2 =>
      bnd (f_X5_get N 8 v4 2 s2) fun r3 s3 =>
      lt (imax 0 ((r3 - (imax r2 (v2 + 1))) + 1)) fun x4 =>
      bnd (f_X5_get N 8 v4 3 s3) fun r5 s5 =>
      f_X0_paidBehindSeen_j95 N (f_X0_paidBehindSeen_L11 N n) v1 v2 (v3 + (x4 * r5)) v4 s5)
    else
    f_X0_paidBehindSeen_j95 N (f_X0_paidBehindSeen_L11 N n) v1 v2 v3 v4 s1
def f_X0_paidBehindSeen (N : Nat) (a1 : Int32) (s : Mem) : Option (Int32 × Mem) :=
  bnd (f_X0_seen N a1 s) fun r1 s1 =>
  f_X0_paidBehindSeen_L11 N N a1 r1 0 0 s1

def f_X0_counts_j31 (N : Nat) (k4 : Int32 → Int32 → Mem → Option (Int32 × Mem)) (v1 : Int32) (v2 : Int32) (s : Mem) : Option (Int32 × Mem) :=
  k4 v1 (v2 + 1) s
def f_X0_counts_L4 (N : Nat) : Nat → Int32 → Int32 → Mem → Option (Int32 × Mem)
  | 0, _, _, _ => none
  | n + 1, v1, v2, s =>
    if (rI s 4 3) ≤ v2 then some (v1, s) else
    bnd (f_X5_get N 4 v2 1 s) fun r1 s1 =>
    if r1 = 3 then f_X0_counts_j31 N (f_X0_counts_L4 N n) (v1 + 1) v2 s1 else
    f_X0_counts_j31 N (f_X0_counts_L4 N n) v1 v2 s1
def f_X0_counts (N : Nat) (s : Mem) : Option (Int32 × Mem) :=
  f_X0_counts_L4 N N 0 0 s

def f_X0_countsWithEnding_j50 (N : Nat) (k4 : Int32 → Int32 → Int32 → Mem → Option (Int32 × Mem)) (v1 : Int32) (v2 : Int32) (v3 : Int32) (s : Mem) : Option (Int32 × Mem) :=
  k4 v1 v2 (v3 + 1) s
def f_X0_countsWithEnding_L4 (N : Nat) : Nat → Int32 → Int32 → Int32 → Mem → Option (Int32 × Mem)
  | 0, _, _, _, _ => none
  | n + 1, v1, v2, v3, s =>
    if (rI s 4 3) ≤ v3 then some (v2, s) else
    bnd (f_X5_get N 4 v3 1 s) fun r1 s1 =>
    if r1 = 3 then (
      bnd (f_X5_get N 4 v3 3 s1) fun r2 s2 =>
      if (r2 - r2 / 10 * 10) = v1 then f_X0_countsWithEnding_j50 N (f_X0_countsWithEnding_L4 N n) v1 (v2 + 1) v3 s2 else
      f_X0_countsWithEnding_j50 N (f_X0_countsWithEnding_L4 N n) v1 v2 v3 s2)
    else
    f_X0_countsWithEnding_j50 N (f_X0_countsWithEnding_L4 N n) v1 v2 v3 s1
def f_X0_countsWithEnding (N : Nat) (a1 : Int32) (s : Mem) : Option (Int32 × Mem) :=
  f_X0_countsWithEnding_L4 N N a1 0 0 s

def f_X0_isLeftOut_j84 (N : Nat) (k2 : Int32 → Int32 → Int32 → Mem → Option (Bool × Mem)) (v1 : Int32) (v2 : Int32) (v3 : Int32) (s : Mem) : Option (Bool × Mem) :=
  k2 v1 v2 (v3 + 1) s
def f_X0_isLeftOut_j71 (N : Nat) (k2 : Int32 → Int32 → Int32 → Mem → Option (Bool × Mem)) (v1 : Int32) (v2 : Int32) (v3 : Int32) (v4 : Int32) (v5 : Bool) (s : Mem) : Option (Bool × Mem) :=
  if v4 = 2 then (
    if v5 = true then f_X0_isLeftOut_j84 N k2 v1 v2 v3 s else
    some (true, s))
  else
  f_X0_isLeftOut_j84 N k2 v1 v2 v3 s
def f_X0_isLeftOut_j58 (N : Nat) (k2 : Int32 → Int32 → Int32 → Mem → Option (Bool × Mem)) (v1 : Int32) (v2 : Int32) (v3 : Int32) (v4 : Int32) (p0 : Bool) (s : Mem) : Option (Bool × Mem) :=
  if v4 = 1 then (
    if p0 = true then some (true, s) else
    f_X0_isLeftOut_j71 N k2 v1 v2 v3 v4 p0 s)
  else
  f_X0_isLeftOut_j71 N k2 v1 v2 v3 v4 p0 s
def f_X0_isLeftOut_L2 (N : Nat) : Nat → Int32 → Int32 → Int32 → Mem → Option (Bool × Mem)
  | 0, _, _, _, _ => none
  | n + 1, v1, v2, v3, s =>
    if (rI s 10 3) ≤ v3 then some (false, s) else
    bnd (f_X5_get N 10 v3 0 s) fun r1 s1 =>
    if r1 = v1 then (
      bnd (f_X5_get N 10 v3 3 s1) fun r2 s2 =>
      bnd (f_X5_get N 10 v3 1 s2) fun r3 s3 =>
      if v2 ≤ r3 then f_X0_isLeftOut_j58 N (f_X0_isLeftOut_L2 N n) v1 v2 v3 r2 false s3 else
      f_X0_isLeftOut_j58 N (f_X0_isLeftOut_L2 N n) v1 v2 v3 r2 true s3)
    else
    f_X0_isLeftOut_j84 N (f_X0_isLeftOut_L2 N n) v1 v2 v3 s1
def f_X0_isLeftOut (N : Nat) (a1 : Int32) (a2 : Int32) (s : Mem) : Option (Bool × Mem) :=
  f_X0_isLeftOut_L2 N N a1 a2 0 s

def f_X0_answered_j30 (N : Nat) (k4 : Int32 → Int32 → Mem → Option (Int32 × Mem)) (v1 : Int32) (v2 : Int32) (s : Mem) : Option (Int32 × Mem) :=
  k4 v1 (v2 + 1) s
def f_X0_answered_L4 (N : Nat) : Nat → Int32 → Int32 → Mem → Option (Int32 × Mem)
  | 0, _, _, _ => none
  | n + 1, v1, v2, s =>
    if (rI s 10 3) ≤ v2 then some (v1, s) else
    bnd (f_X5_get N 10 v2 3 s) fun r1 s1 =>
    if r1 = 0 then f_X0_answered_j30 N (f_X0_answered_L4 N n) v1 v2 s1 else
    f_X0_answered_j30 N (f_X0_answered_L4 N n) (v1 + 1) v2 s1
def f_X0_answered (N : Nat) (s : Mem) : Option (Int32 × Mem) :=
  f_X0_answered_L4 N N 0 0 s

def f_X2_begin_j67 (N : Nat) (k2 : Int32 → Int32 → Mem → Option (Unit × Mem)) (v2 : Int32) (v3 : Int32) (p0 : Int64) (p1 : Int32) (s : Mem) : Option (Unit × Mem) :=
  gin p1 161 (
    lt (wL s 32 p1.toNatClampNeg p0) fun s1 =>
    k2 v2 (v3 + 1) s1)
def f_X2_begin_j33 (N : Nat) (k2 : Int32 → Int32 → Mem → Option (Unit × Mem)) (v2 : Int32) (v3 : Int32) (p0 : Bool) (s : Mem) : Option (Unit × Mem) :=
  if p0 = true then f_X2_begin_j67 N k2 v2 v3 0 v3 s else
  bnd (f_X5_get N 6 (((rI s 31 1) - v3) / 10) 0 s) fun r1 s1 =>
  f_X2_begin_j67 N k2 v2 v3 r1.toInt64 v3 s1
def f_X2_begin_j28 (N : Nat) (k2 : Int32 → Int32 → Mem → Option (Unit × Mem)) (v2 : Int32) (v3 : Int32) (s : Mem) : Option (Unit × Mem) :=
  f_X2_begin_j33 N k2 v2 v3 true s
def f_X2_begin_L2 (N : Nat) : Nat → Int32 → Int32 → Mem → Option (Unit × Mem)
  | 0, _, _, _ => none
  | n + 1, v2, v3, s =>
    if 161 ≤ v3 then some ((), s) else
    if (rI s 31 1) < v3 then f_X2_begin_j28 N (f_X2_begin_L2 N n) v2 v3 s else
    bnd (f_X0_isLeftOut N v2 v3 s) fun r1 s1 =>
    if r1 = true then f_X2_begin_j28 N (f_X2_begin_L2 N n) v2 v3 s1 else
    f_X2_begin_j33 N (f_X2_begin_L2 N n) v2 v3 false s1
def f_X2_begin (N : Nat) (a2 : Int32) (s : Mem) : Option (Unit × Mem) :=
  f_X2_begin_L2 N N a2 0 s

def f_X2_take_j68 (N : Nat) (k13 : Int32 → Int32 → Int32 → Mem → Option (Unit × Mem)) (v2 : Int32) (v3 : Int32) (v4 : Int32) (s : Mem) : Option (Unit × Mem) :=
  k13 v2 v3 (v4 + 1) s
def f_X2_take_j66 (N : Nat) (k13 : Int32 → Int32 → Int32 → Mem → Option (Unit × Mem)) (v2 : Int32) (v3 : Int32) (v4 : Int32) (p0 : Int64) (p1 : Int64) (p2 : Int32) (s : Mem) : Option (Unit × Mem) :=
  gin p2 161 (
    lt (wL s 32 p2.toNatClampNeg (p1 * p0)) fun s1 =>
    f_X2_take_j68 N k13 v2 v3 v4 s1)
def f_X2_take_L13 (N : Nat) : Nat → Int32 → Int32 → Int32 → Mem → Option (Unit × Mem)
  | 0, _, _, _, _ => none
  | n + 1, v2, v3, v4, s =>
    if 161 ≤ v4 then some ((), s) else
    gin v4 161 (
      if (rL s 32 v4.toNatClampNeg) = 0 then f_X2_take_j68 N (f_X2_take_L13 N n) v2 v3 v4 s else
      gin v4 161 (
        bnd (f_X0_isInSpan N v2 v4 s) fun r1 s1 =>
        if r1 = true then f_X2_take_j66 N (f_X2_take_L13 N n) v2 v3 v4 ((100 - v3).toInt64) (rL s 32 v4.toNatClampNeg) v4 s1 else
        f_X2_take_j66 N (f_X2_take_L13 N n) v2 v3 v4 v3.toInt64 (rL s 32 v4.toNatClampNeg) v4 s1))
def f_X2_take (N : Nat) (a2 : Int32) (s : Mem) : Option (Unit × Mem) :=
  bnd (f_X5_get N 4 a2 4 s) fun r1 s1 =>
  f_X2_take_L13 N N a2 r1 0 s1

def f_X2_sum_j62 (N : Nat) (k15 : Int64 → Int32 → Mem → Option (Unit × Mem)) (v1 : Int64) (v3 : Int32) (s : Mem) : Option (Unit × Mem) :=
  k15 v1 (v3 + 1) s
def f_X2_sum_L15 (N : Nat) : Nat → Int64 → Int32 → Mem → Option (Unit × Mem)
  | 0, _, _, _ => none
  | n + 1, v1, v3, s =>
    if 161 ≤ v3 then some ((), s) else
    gin v3 161 (
      lt (wL s 31 2 ((rL s 31 2) + (rL s 32 v3.toNatClampNeg))) fun s1 =>
      gin v3 161 (
        if (rL s1 32 v3.toNatClampNeg) ≤ v1 then f_X2_sum_j62 N (f_X2_sum_L15 N n) v1 v3 s1 else
        gin v3 161 (
          lt (wI s1 31 3 v3) fun s2 =>
          f_X2_sum_j62 N (f_X2_sum_L15 N n) (rL s1 32 v3.toNatClampNeg) v3 s2)))
def f_X2_sum (N : Nat) (s : Mem) : Option (Unit × Mem) :=
  lt (wL s 31 2 0) fun s1 =>
  lt (wI s1 31 3 (-3)) fun s2 =>
  f_X2_sum_L15 N N 0 0 s2

def f_X2_weigh_j49 (N : Nat) (s : Mem) : Option (Unit × Mem) :=
  bnd (f_X2_sum N s) fun _ s1 =>
  some ((), s1)
def f_X2_weigh_j43 (N : Nat) (k17 : Int32 → Int32 → Mem → Option (Unit × Mem)) (k49 : Mem → Option (Unit × Mem)) (v2 : Int32) (v3 : Int32) (s : Mem) : Option (Unit × Mem) :=
  k17 v2 (v3 + 1) s
def f_X2_weigh_L17 (N : Nat) (k49 : Mem → Option (Unit × Mem)) : Nat → Int32 → Int32 → Mem → Option (Unit × Mem)
  | 0, _, _, _ => none
  | n + 1, v2, v3, s =>
    if (rI s 4 3) ≤ v3 then k49 s else
    bnd (f_X0_isOf N v3 v2 s) fun r1 s1 =>
    if r1 = true then (
      bnd (f_X2_take N v3 s1) fun _ s2 =>
      f_X2_weigh_j43 N (f_X2_weigh_L17 N k49 n) k49 v2 v3 s2)
    else
    f_X2_weigh_j43 N (f_X2_weigh_L17 N k49 n) k49 v2 v3 s1
def f_X2_weigh (N : Nat) (a2 : Int32) (s : Mem) : Option (Unit × Mem) :=
  bnd (f_X0_seen N a2 s) fun r1 s1 =>
  lt (wI s1 31 1 r1) fun s2 =>
  bnd (f_X2_begin N a2 s2) fun _ s3 =>
  f_X2_weigh_L17 N (f_X2_weigh_j49 N) N a2 0 s3

def f_X1_learn_j105 (N : Nat) (k51 : Int32 → Int32 → Mem → Option (Unit × Mem)) (v3 : Int32) (v5 : Int32) (s : Mem) : Option (Unit × Mem) :=
  k51 v3 (v5 + 1) s
def f_X1_learn_L51 (N : Nat) : Nat → Int32 → Int32 → Mem → Option (Unit × Mem)
  | 0, _, _, _ => none
  | n + 1, v3, v5, s =>
    if (rI s 4 3) ≤ v5 then some ((), s) else
    if (rI s 31 3) = (-3) then some ((), s) else
    bnd (f_X0_isOf N v5 v3 s) fun r1 s1 =>
    if r1 = true then (
      bnd (f_X0_isInSpan N v5 (rI s1 31 3) s1) fun r2 s2 =>
      if r2 = true then f_X1_learn_j105 N (f_X1_learn_L51 N n) v3 v5 s2 else
      lt (wI s2 33 4 ((rI s2 33 4) + 1)) fun s3 =>
      f_X1_learn_j105 N (f_X1_learn_L51 N n) v3 v5 s3)
    else
    f_X1_learn_j105 N (f_X1_learn_L51 N n) v3 v5 s1
def f_X1_learn (N : Nat) (a3 : Int32) (s : Mem) : Option (Unit × Mem) :=
  bnd (f_X0_paperBitsOf N a3 s) fun r1 s1 =>
  bnd (f_J6_bitCount_0f7a4 N r1 s1) fun r2 s2 =>
  lt (wI s2 33 1 r2) fun s3 =>
  bnd (f_X0_standing N s3) fun r4 s4 =>
  bnd (f_J6_bitCount_0f7a4 N (r1 &&& r4) s4) fun r5 s5 =>
  lt (wI s5 33 2 r5) fun s6 =>
  bnd (f_X5_get N 2 a3 0 s6) fun r7 s7 =>
  lt (wI s7 33 3 r7) fun s8 =>
  lt (wI s8 33 4 0) fun s9 =>
  f_X1_learn_L51 N N a3 0 s9

def f_X3_clear (N : Nat) (t : Nat) (s : Mem) : Option (Unit × Mem) :=
  lt (wI s t 1 0) fun s1 =>
  some ((), s1)

def f_X3_pop (N : Nat) (t : Nat) (s : Mem) : Option (Int32 × Mem) :=
  if (rI s t 1) ≤ 0 then some (0, s) else
  if (rI s t 1) ≤ (nI (ln (t + 1))) then (
    lt (wI s t 1 ((rI s t 1) - 1)) fun s1 =>
    gin (rI s1 t 1) (ln (t + 1)) (some ((rI s1 (t + 1) (rI s1 t 1).toNatClampNeg), s1)))
  else
  some (0, s)

def f_X3_push (N : Nat) (t : Nat) (a1 : Int32) (s : Mem) : Option (Unit × Mem) :=
  if (rI s t 1) < 0 then some ((), s) else
  if (rI s t 1) < (nI (ln (t + 1))) then (
    gin (rI s t 1) (ln (t + 1)) (
      lt (wI s (t + 1) (rI s t 1).toNatClampNeg a1) fun s1 =>
      lt (wI s1 t 1 ((rI s1 t 1) + 1)) fun s2 =>
      some ((), s2)))
  else
  some ((), s)

def f_X1_join_j52 (N : Nat) (p0 : Int32) (s : Mem) : Option (Unit × Mem) :=
  bnd (f_X3_push N 34 p0 s) fun _ s1 =>
  some ((), s1)
def f_X1_join (N : Nat) (a1 : Int32) (s : Mem) : Option (Unit × Mem) :=
  bnd (f_X3_pop N 34 s) fun r1 s1 =>
  if a1 = 13 then (
    bnd (f_X3_push N 34 (1 - r1) s1) fun _ s3 =>
    some ((), s3))
  else
  bnd (f_X3_pop N 34 s1) fun r2 s2 =>
  if a1 = 12 then f_X1_join_j52 N (r2 &&& r1) s2 else
  f_X1_join_j52 N (r2 ||| r1) s2

def f_X2_bestAge (N : Nat) (s : Mem) : Option (Int32 × Mem) :=
  if (rI s 31 3) = (-3) then some (0, s) else
  some (((rI s 31 1) - (rI s 31 3)), s)

def f_X2_upTo_L5 (N : Nat) : Nat → Int32 → Int64 → Int32 → Mem → Option (Int64 × Mem)
  | 0, _, _, _, _ => none
  | n + 1, v1, v2, v4, s =>
    if v1 < v4 then some (v2, s) else
    if 161 ≤ v4 then some (v2, s) else
    gin v4 161 (f_X2_upTo_L5 N n v1 (v2 + (rL s 32 v4.toNatClampNeg)) (v4 + 1) s)
def f_X2_upTo (N : Nat) (a1 : Int32) (s : Mem) : Option (Int64 × Mem) :=
  f_X2_upTo_L5 N N a1 0 0 s

def f_X2_hundredthsOf (N : Nat) (a1 : Int32) (s : Mem) : Option (Int32 × Mem) :=
  if 0 < (rL s 31 2) then (
    bnd (f_X2_upTo N ((rI s 31 1) - a1) s) fun r1 s1 =>
    gnzL (rL s1 31 2) (some (((r1 * 100) / (rL s1 31 2)).toInt32, s1)))
  else
  some (0, s)

def f_X1_valueOf (N : Nat) (a2 : Int32) (s : Mem) : Option (Int32 × Mem) :=
  if (a2 / 1000) = 1 then some ((a2 - a2 / 1000 * 1000), s) else
  if (a2 / 1000) = 2 then some ((rI s 33 1), s) else
  if (a2 / 1000) = 3 then some ((rI s 33 2), s) else
  if (a2 / 1000) = 4 then (
    bnd (f_X2_bestAge N s) fun r1 s1 =>
    some (r1, s1))
  else
  if (a2 / 1000) = 5 then some ((rI s 31 1), s) else
  if (a2 / 1000) = 6 then some ((rI s 33 3), s) else
  if (a2 / 1000) = 7 then some ((rI s 33 4), s) else
  if (a2 / 1000) = 8 then (
    bnd (f_X2_hundredthsOf N (a2 - a2 / 1000 * 1000) s) fun r2 s2 =>
    some (r2, s2))
  else
  some (0, s)

def f_X1_isSo (N : Nat) (a0 : Int32) (a1 : Int32) (a2 : Int32) (s : Mem) : Option (Bool × Mem) :=
  if a0 = 16 then (
    if a2 ≤ a1 then some (false, s) else
    some (true, s))
  else
  if a0 = 18 then (
    if a1 ≤ a2 then some (false, s) else
    some (true, s))
  else
  if a1 = a2 then some (true, s) else
  some (false, s)

def f_X3_top (N : Nat) (t : Nat) (s : Mem) : Option (Int32 × Mem) :=
  if (rI s t 1) ≤ 0 then some (0, s) else
  if (nI (ln (t + 1))) < (rI s t 1) then some (0, s) else
  gin ((rI s t 1) - 1) (ln (t + 1)) (some ((rI s (t + 1) ((rI s t 1) - 1).toNatClampNeg), s))

def f_X1_holds_j152 (N : Nat) (s : Mem) : Option (Bool × Mem) :=
  bnd (f_X3_top N 34 s) fun r1 s1 =>
  if r1 = 1 then some (true, s1) else
  some (false, s1)
def f_X1_holds_j146 (N : Nat) (k39 : Int32 → Int32 → Mem → Option (Bool × Mem)) (k152 : Mem → Option (Bool × Mem)) (v4 : Int32) (v5 : Int32) (s : Mem) : Option (Bool × Mem) :=
  k39 v4 (v5 + 1) s
def f_X1_holds_j79 (N : Nat) (k39 : Int32 → Int32 → Mem → Option (Bool × Mem)) (k152 : Mem → Option (Bool × Mem)) (v4 : Int32) (v5 : Int32) (v6 : Int32) (s : Mem) : Option (Bool × Mem) :=
  bnd (f_X1_join N v6 s) fun _ s1 =>
  f_X1_holds_j146 N k39 k152 v4 v5 s1
def f_X1_holds_j143 (N : Nat) (k39 : Int32 → Int32 → Mem → Option (Bool × Mem)) (k152 : Mem → Option (Bool × Mem)) (v4 : Int32) (v5 : Int32) (p0 : Bool) (s : Mem) : Option (Bool × Mem) :=
  bnd (f_X3_push N 34 (bI p0) s) fun _ s1 =>
  f_X1_holds_j146 N k39 k152 v4 v5 s1
def f_X1_holds_L39 (N : Nat) (k152 : Mem → Option (Bool × Mem)) : Nat → Int32 → Int32 → Mem → Option (Bool × Mem)
  | 0, _, _, _ => none
  | n + 1, v4, v5, s =>
    if v4 ≤ v5 then k152 s else
    bnd (f_X5_get N 14 v5 0 s) fun r1 s1 =>
    if r1 = 13 then f_X1_holds_j79 N (f_X1_holds_L39 N k152 n) k152 v4 v5 r1 s1 else
    if r1 = 12 then f_X1_holds_j79 N (f_X1_holds_L39 N k152 n) k152 v4 v5 r1 s1 else
    if r1 = 11 then f_X1_holds_j79 N (f_X1_holds_L39 N k152 n) k152 v4 v5 r1 s1 else
    bnd (f_X5_get N 14 v5 1 s1) fun r2 s2 =>
    bnd (f_X1_valueOf N r2 s2) fun r3 s3 =>
    bnd (f_X5_get N 14 v5 2 s3) fun r4 s4 =>
    bnd (f_X1_valueOf N r4 s4) fun r5 s5 =>
    bnd (f_X1_isSo N r1 r3 r5 s5) fun r6 s6 =>
    if r6 = true then f_X1_holds_j143 N (f_X1_holds_L39 N k152 n) k152 v4 v5 true s6 else
    f_X1_holds_j143 N (f_X1_holds_L39 N k152 n) k152 v4 v5 false s6
def f_X1_holds (N : Nat) (a3 : Int32) (s : Mem) : Option (Bool × Mem) :=
  bnd (f_X3_clear N 34 s) fun _ s1 =>
  bnd (f_X5_get N 12 a3 2 s1) fun r2 s2 =>
  bnd (f_X5_get N 12 a3 1 s2) fun r3 s3 =>
  f_X1_holds_L39 N (f_X1_holds_j152 N) N (imin r2 (rI s2 14 3)) r3 s3

def f_X1_clauseFor_L16 (N : Nat) : Nat → Int32 → Mem → Option (Int32 × Mem)
  | 0, _, _ => none
  | n + 1, v4, s =>
    if (rI s 12 3) ≤ v4 then some ((-3), s) else
    bnd (f_X1_holds N v4 s) fun r1 s1 =>
    if r1 = true then some (v4, s1) else
    f_X1_clauseFor_L16 N n (v4 + 1) s1
def f_X1_clauseFor (N : Nat) (a3 : Int32) (s : Mem) : Option (Int32 × Mem) :=
  bnd (f_X2_weigh N a3 s) fun _ s1 =>
  bnd (f_X1_learn N a3 s1) fun _ s2 =>
  f_X1_clauseFor_L16 N N 0 s2

def f_X1_isTaken (N : Nat) (a3 : Int32) (s : Mem) : Option (Bool × Mem) :=
  bnd (f_X1_clauseFor N a3 s) fun r1 s1 =>
  if r1 = (-3) then some (false, s1) else
  bnd (f_X5_get N 12 r1 0 s1) fun r2 s2 =>
  if r2 = 1 then some (true, s2) else
  some (false, s2)

def f_X2_of (N : Nat) (a1 : Int32) (s : Mem) : Option (Int64 × Mem) :=
  if a1 < 0 then some (0, s) else
  if 161 ≤ a1 then some (0, s) else
  gin a1 161 (some ((rL s 32 a1.toNatClampNeg), s))

def f_X2_ofAge (N : Nat) (a1 : Int32) (s : Mem) : Option (Int64 × Mem) :=
  bnd (f_X2_upTo N ((rI s 31 1) - a1) s) fun r1 s1 =>
  some (r1, s1)

def f_X3_has (N : Nat) (t : Nat) (a1 : Int32) (s : Mem) : Option (Bool × Mem) :=
  if a1 < 0 then some (false, s) else
  if (rI s t 1) ≤ a1 then some (false, s) else
  some (true, s)

def f_X3_get (N : Nat) (t : Nat) (a1 : Int32) (s : Mem) : Option (Int32 × Mem) :=
  if a1 < 0 then some (0, s) else
  if (rI s t 1) ≤ a1 then some (0, s) else
  if (nI (ln (t + 1))) ≤ a1 then some (0, s) else
  gin a1 (ln (t + 1)) (some ((rI s (t + 1) a1.toNatClampNeg), s))

def f_J7_fill_53178_L5 (N : Nat) (ar : Nat) : Nat → Int32 → Int32 → Int32 → Mem → Option (Unit × Mem)
  | 0, _, _, _, _ => none
  | n + 1, v1, v2, v3, s =>
    if v3 ≤ v2 then some ((), s) else
    gin v2 (ln ar) (
      lt (wI s ar v2.toNatClampNeg v1) fun s1 =>
      f_J7_fill_53178_L5 N ar n v1 (v2 + 1) v3 s1)
def f_J7_fill_53178 (N : Nat) (ar : Nat) (a1 : Int32) (s : Mem) : Option (Unit × Mem) :=
  f_J7_fill_53178_L5 N ar N a1 0 (nI (ln ar)) s

def f_X4_become (N : Nat) (t : Nat) (a1 : Int32) (a2 : Int32) (s : Mem) : Option (Unit × Mem) :=
  lt (wI s t 1 a1) fun s1 =>
  lt (wI s1 t 2 (imax 0 (imin a2 (nI (ln (t + 1)))))) fun s2 =>
  bnd (f_J7_fill_53178 N (t + 1) 0 s2) fun _ s3 =>
  some ((), s3)

def f_X4_refusalAs (N : Nat) (t : Nat) (a1 : Int32) (s : Mem) : Option (Int32 × Mem) :=
  if (rI s t 1) = (-1) then some ((-11), s) else
  if (rI s t 1) = a1 then some (0, s) else
  some ((-13), s)

def f_X4_has (N : Nat) (t : Nat) (a1 : Int32) (s : Mem) : Option (Bool × Mem) :=
  if a1 < 0 then some (false, s) else
  if (rI s t 2) ≤ a1 then some (false, s) else
  some (true, s)

def f_X4_get (N : Nat) (t : Nat) (a1 : Int32) (s : Mem) : Option (Int32 × Mem) :=
  bnd (f_X4_has N t a1 s) fun r1 s1 =>
  if r1 = true then (
    if (nI (ln (t + 1))) ≤ a1 then some (0, s1) else
    gin a1 (ln (t + 1)) (some ((rI s1 (t + 1) a1.toNatClampNeg), s1)))
  else
  some (0, s1)

def f_X4_set (N : Nat) (t : Nat) (a1 : Int32) (a2 : Int32) (s : Mem) : Option (Unit × Mem) :=
  bnd (f_X4_has N t a1 s) fun r1 s1 =>
  if r1 = true then (
    if a1 < (nI (ln (t + 1))) then (
      if (rI s1 t 1) = 0 then (
        gin a1 (ln (t + 1)) (
          lt (wI s1 (t + 1) a1.toNatClampNeg a2.toInt8.toInt32) fun s4 =>
          some ((), s4)))
      else
      if (rI s1 t 1) = 1 then (
        gin a1 (ln (t + 1)) (
          lt (wI s1 (t + 1) a1.toNatClampNeg a2.toInt16.toInt32) fun s3 =>
          some ((), s3)))
      else
      gin a1 (ln (t + 1)) (
        lt (wI s1 (t + 1) a1.toNatClampNeg a2) fun s2 =>
        some ((), s2)))
    else
    some ((), s1))
  else
  some ((), s1)

def f_X5_isFull (N : Nat) (t : Nat) (s : Mem) : Option (Bool × Mem) :=
  if (rI s t 3) < (rI s t 1) then some (false, s) else
  some (true, s)

def f_X5_clear (N : Nat) (t : Nat) (s : Mem) : Option (Unit × Mem) :=
  lt (wI s t 3 0) fun s1 =>
  some ((), s1)

def f_X8_isUnder_L4 (N : Nat) : Nat → Int32 → Int32 → Int32 → Mem → Option (Bool × Mem)
  | 0, _, _, _, _ => none
  | n + 1, v1, v2, v3, s =>
    if 9 ≤ v3 then some (false, s) else
    if v2 < 0 then some (false, s) else
    if 9 ≤ v2 then some (false, s) else
    if v2 = v1 then some (true, s) else
    gin v2 9 (f_X8_isUnder_L4 N n v1 (kaV v2.toNatClampNeg) (v3 + 1) s)
def f_X8_isUnder (N : Nat) (a0 : Int32) (a1 : Int32) (s : Mem) : Option (Bool × Mem) :=
  f_X8_isUnder_L4 N N a1 a0 0 s

def f_X6_runs (N : Nat) (a1 : Int32) (a2 : Int32) (s : Mem) : Option (Bool × Mem) :=
  bnd (f_X8_isUnder N (rI s 58 1) a2 s) fun r1 s1 =>
  if r1 = true then (
    bnd (f_X3_push N 59 a1 s1) fun _ s2 =>
    some (true, s2))
  else
  some (false, s1)

def f_X6_saysOf_j82 (N : Nat) (v2 : Bool) (v5 : Int32) (s : Mem) : Option (Int32 × Mem) :=
  if v2 = true then some ((v5 * 5), s) else
  some (v5, s)
def f_X6_saysOf_j69 (N : Nat) (v2 : Bool) (v3 : Bool) (v5 : Int32) (s : Mem) : Option (Int32 × Mem) :=
  if v3 = true then f_X6_saysOf_j82 N v2 (v5 ^^^ (rI s 58 3)) s else
  f_X6_saysOf_j82 N v2 v5 s
def f_X6_saysOf (N : Nat) (a1 : Int32) (s : Mem) : Option (Int32 × Mem) :=
  bnd (f_X6_runs N 80 8 s) fun r1 s1 =>
  if r1 = true then some (((rI s1 58 3) - a1), s1) else
  bnd (f_X6_runs N 70 7 s1) fun r2 s2 =>
  bnd (f_X6_runs N 50 5 s2) fun r3 s3 =>
  bnd (f_X6_runs N 20 2 s3) fun r4 s4 =>
  bnd (f_X3_push N 59 10 s4) fun _ s5 =>
  if r4 = true then f_X6_saysOf_j69 N r2 r3 ((a1 + (rI s5 58 3)) + (-1)) s5 else
  f_X6_saysOf_j69 N r2 r3 (a1 + (rI s5 58 3)) s5

def f_X6_leansOf_j70 (N : Nat) (v2 : Bool) (v4 : Int32) (s : Mem) : Option (Int32 × Mem) :=
  if v2 = true then some ((0 - v4), s) else
  some (v4, s)
def f_X6_leansOf (N : Nat) (a1 : Int32) (s : Mem) : Option (Int32 × Mem) :=
  bnd (f_X6_runs N 81 8 s) fun r1 s1 =>
  if r1 = true then some ((a1 + (rI s1 58 2)), s1) else
  bnd (f_X6_runs N 60 6 s1) fun r2 s2 =>
  bnd (f_X6_runs N 30 3 s2) fun r3 s3 =>
  bnd (f_X3_push N 59 11 s3) fun _ s4 =>
  bnd (f_X6_saysOf N a1 s4) fun r5 s5 =>
  if r3 = true then (
    bnd (f_X6_saysOf N (rI s5 58 2) s5) fun r6 s6 =>
    f_X6_leansOf_j70 N r2 ((r5 * 2) + r6) s6)
  else
  f_X6_leansOf_j70 N r2 (r5 * 2) s5

def f_X6_fitsOf_j67 (N : Nat) (v3 : Int32) (p0 : Int32) (s : Mem) : Option (Int32 × Mem) :=
  gnz v3 (some ((p0 / v3), s))
def f_X6_fitsOf (N : Nat) (a1 : Int32) (s : Mem) : Option (Int32 × Mem) :=
  bnd (f_X6_runs N 82 8 s) fun r1 s1 =>
  if r1 = true then some ((a1 &&& (rI s1 58 3)), s1) else
  bnd (f_X6_runs N 51 5 s1) fun r2 s2 =>
  bnd (f_X3_push N 59 12 s2) fun _ s3 =>
  if ((rI s3 58 3) - (rI s3 58 2)) = 0 then (
    lt (wI s3 58 4 1) fun s4 =>
    some (0, s4))
  else
  if r2 = true then f_X6_fitsOf_j67 N ((rI s3 58 3) - (rI s3 58 2)) (a1 + 1) s3 else
  f_X6_fitsOf_j67 N ((rI s3 58 3) - (rI s3 58 2)) a1 s3

def f_X6_tellsOf_j71 (N : Nat) (v2 : Bool) (v4 : Int32) (s : Mem) : Option (Int32 × Mem) :=
  if v2 = true then (
    bnd (f_X6_fitsOf N (rI s 58 2) s) fun r1 s1 =>
    some ((v4 + r1), s1))
  else
  some (v4, s)
def f_X6_tellsOf (N : Nat) (a1 : Int32) (s : Mem) : Option (Int32 × Mem) :=
  bnd (f_X6_runs N 83 8 s) fun r1 s1 =>
  if r1 = true then (
    bnd (f_X6_saysOf N a1 s1) fun r6 s6 =>
    bnd (f_X6_leansOf N a1 s6) fun r7 s7 =>
    some ((r6 + r7), s7))
  else
  bnd (f_X6_runs N 61 6 s1) fun r2 s2 =>
  bnd (f_X6_runs N 40 4 s2) fun r3 s3 =>
  bnd (f_X3_push N 59 13 s3) fun _ s4 =>
  bnd (f_X6_leansOf N a1 s4) fun r5 s5 =>
  if r3 = true then f_X6_tellsOf_j71 N r2 ((r5 ^^^ (rI s5 58 2)) * 3) s5 else
  f_X6_tellsOf_j71 N r2 (r5 ^^^ (rI s5 58 2)) s5

def f_X6_perform_j78 (N : Nat) (v3 : Int32) (s : Mem) : Option (Int32 × Mem) :=
  if (rI s 58 4) = 0 then some (v3, s) else
  some ((-15), s)
def f_X6_perform (N : Nat) (a1 : Int32) (a2 : Int32) (s : Mem) : Option (Int32 × Mem) :=
  lt (wI s 58 4 0) fun s1 =>
  if a1 = 0 then (
    bnd (f_X6_saysOf N a2 s1) fun r2 s2 =>
    f_X6_perform_j78 N r2 s2)
  else
  if a1 = 1 then (
    bnd (f_X6_leansOf N a2 s1) fun r3 s3 =>
    f_X6_perform_j78 N r3 s3)
  else
  if a1 = 2 then (
    bnd (f_X6_fitsOf N a2 s1) fun r4 s4 =>
    f_X6_perform_j78 N r4 s4)
  else
  if a1 = 3 then (
    bnd (f_X6_tellsOf N a2 s1) fun r5 s5 =>
    f_X6_perform_j78 N r5 s5)
  else
  some (0, s1)

def f_X7_byteAt (N : Nat) (a1 : Int32) (s : Mem) : Option (Int32 × Mem) :=
  if rI s 36 3 = 0 then some (0, s) else
  if rI s 36 3 = 0 then none else
  bnd (f_X3_get N 43 a1 s) fun r1 s1 =>
  some (r1, s1)

def f_X7_isLetter (N : Nat) (a1 : Int32) (s : Mem) : Option (Bool × Mem) :=
  bnd (f_X7_byteAt N a1 s) fun r1 s1 =>
  if r1 < 97 then some (false, s1) else
  bnd (f_X7_byteAt N a1 s1) fun r2 s2 =>
  if 122 < r2 then some (false, s2) else
  some (true, s2)

def f_X7_isWord_L20 (N : Nat) (z : Nat) : Nat → Int32 → Mem → Option (Bool × Mem)
  | 0, _, _ => none
  | n + 1, v2, s =>
    bnd (f_len z s) fun r1 s1 =>
    if r1 ≤ v2 then some (true, s1) else
    bnd (f_chr z v2 s1) fun r2 s2 =>
    bnd (f_X7_byteAt N ((rI s2 36 4) + v2) s2) fun r3 s3 =>
    if r2 = r3 then f_X7_isWord_L20 N z n (v2 + 1) s3 else
    some (false, s3)
def f_X7_isWord (N : Nat) (z : Nat) (s : Mem) : Option (Bool × Mem) :=
  bnd (f_len z s) fun r1 s1 =>
  if r1 = ((rI s1 36 5) - (rI s1 36 4)) then f_X7_isWord_L20 N z N 0 s1 else
  some (false, s1)

def f_X7_wordToken (N : Nat) (s : Mem) : Option (Int32 × Mem) :=
  bnd (f_X7_isWord N 0 s) fun r1 s1 =>
  if r1 = true then some (2, s1) else
  bnd (f_X7_isWord N 1 s1) fun r2 s2 =>
  if r2 = true then some (3, s2) else
  bnd (f_X7_isWord N 2 s2) fun r3 s3 =>
  if r3 = true then some (4, s3) else
  bnd (f_X7_isWord N 3 s3) fun r4 s4 =>
  if r4 = true then some (5, s4) else
  bnd (f_X7_isWord N 4 s4) fun r5 s5 =>
  if r5 = true then some (6, s5) else
  bnd (f_X7_isWord N 5 s5) fun r6 s6 =>
  if r6 = true then some (7, s6) else
  bnd (f_X7_isWord N 6 s6) fun r7 s7 =>
  if r7 = true then some (8, s7) else
  bnd (f_X7_isWord N 7 s7) fun r8 s8 =>
  if r8 = true then some (9, s8) else
  bnd (f_X7_isWord N 8 s8) fun r9 s9 =>
  if r9 = true then some (10, s9) else
  bnd (f_X7_isWord N 9 s9) fun r10 s10 =>
  if r10 = true then some (11, s10) else
  bnd (f_X7_isWord N 10 s10) fun r11 s11 =>
  if r11 = true then some (12, s11) else
  bnd (f_X7_isWord N 11 s11) fun r12 s12 =>
  if r12 = true then some (13, s12) else
  some (20, s12)

def f_X7_isDigit (N : Nat) (a1 : Int32) (s : Mem) : Option (Bool × Mem) :=
  bnd (f_X7_byteAt N a1 s) fun r1 s1 =>
  if r1 < 48 then some (false, s1) else
  bnd (f_X7_byteAt N a1 s1) fun r2 s2 =>
  if 57 < r2 then some (false, s2) else
  some (true, s2)

def f_X7_numberToken_L26 (N : Nat) : Nat → Int32 → Mem → Option (Int32 × Mem)
  | 0, _, _ => none
  | n + 1, v1, s =>
    if (rI s 36 5) ≤ v1 then some (1, s) else
    bnd (f_X7_byteAt N v1 s) fun r1 s1 =>
    lt (wI s1 36 6 ((((rI s 36 6) * 10) + r1) - 48)) fun s2 =>
    f_X7_numberToken_L26 N n (v1 + 1) s2
def f_X7_numberToken (N : Nat) (s : Mem) : Option (Int32 × Mem) :=
  if ((rI s 36 5) - (rI s 36 4)) ≤ 3 then (
    lt (wI s 36 6 0) fun s1 =>
    f_X7_numberToken_L26 N N (rI s1 36 4) s1)
  else
  some (20, s)

def f_X7_signToken (N : Nat) (s : Mem) : Option (Int32 × Mem) :=
  bnd (f_X7_byteAt N (rI s 36 4) s) fun r1 s1 =>
  if r1 = 40 then some (14, s1) else
  if r1 = 41 then some (15, s1) else
  if r1 = 59 then some (19, s1) else
  if r1 = 60 then some (16, s1) else
  if r1 = 61 then some (17, s1) else
  if r1 = 62 then some (18, s1) else
  some (20, s1)

def f_X7_nextToken_j170 (N : Nat) (s : Mem) : Option (Int32 × Mem) :=
  bnd (f_X7_numberToken N s) fun r1 s1 =>
  some (r1, s1)
def f_X7_nextToken_L138 (N : Nat) (k170 : Mem → Option (Int32 × Mem)) : Nat → Int32 → Mem → Option (Int32 × Mem)
  | 0, _, _ => none
  | n + 1, v1, s =>
    if v1 ≤ (rI s 36 5) then k170 s else
    bnd (f_X7_isDigit N (rI s 36 5) s) fun r1 s1 =>
    if r1 = true then (
      lt (wI s1 36 5 ((rI s1 36 5) + 1)) fun s2 =>
      f_X7_nextToken_L138 N k170 n v1 s2)
    else
    k170 s1
def f_X7_nextToken_j122 (N : Nat) (s : Mem) : Option (Int32 × Mem) :=
  bnd (f_X7_wordToken N s) fun r1 s1 =>
  some (r1, s1)
def f_X7_nextToken_L90 (N : Nat) (k122 : Mem → Option (Int32 × Mem)) : Nat → Int32 → Mem → Option (Int32 × Mem)
  | 0, _, _ => none
  | n + 1, v1, s =>
    if v1 ≤ (rI s 36 5) then k122 s else
    bnd (f_X7_isLetter N (rI s 36 5) s) fun r1 s1 =>
    if r1 = true then (
      lt (wI s1 36 5 ((rI s1 36 5) + 1)) fun s2 =>
      f_X7_nextToken_L90 N k122 n v1 s2)
    else
    k122 s1
def f_X7_nextToken_j61 (N : Nat) (v1 : Int32) (s : Mem) : Option (Int32 × Mem) :=
  lt (wI s 36 5 (rI s 36 4)) fun s1 =>
  if (rI s1 36 4) < v1 then (
    bnd (f_X7_isLetter N (rI s1 36 4) s1) fun r2 s2 =>
    if r2 = true then f_X7_nextToken_L90 N (f_X7_nextToken_j122 N) N v1 s2 else
    bnd (f_X7_isDigit N (rI s2 36 4) s2) fun r3 s3 =>
    if r3 = true then f_X7_nextToken_L138 N (f_X7_nextToken_j170 N) N v1 s3 else
    lt (wI s3 36 5 ((rI s3 36 5) + 1)) fun s4 =>
    bnd (f_X7_signToken N s4) fun r5 s5 =>
    some (r5, s5))
  else
  some (0, s1)
def f_X7_nextToken_L27 (N : Nat) (k61 : Int32 → Mem → Option (Int32 × Mem)) : Nat → Int32 → Mem → Option (Int32 × Mem)
  | 0, _, _ => none
  | n + 1, v1, s =>
    if v1 ≤ (rI s 36 4) then k61 v1 s else
    bnd (f_X7_byteAt N (rI s 36 4) s) fun r1 s1 =>
    if r1 = 32 then (
      lt (wI s1 36 4 ((rI s1 36 4) + 1)) fun s2 =>
      f_X7_nextToken_L27 N k61 n v1 s2)
    else
    k61 v1 s1
def f_X7_nextToken_j18 (N : Nat) (p0 : Int32) (s : Mem) : Option (Int32 × Mem) :=
  lt (wI s 36 4 (rI s 36 5)) fun s1 =>
  f_X7_nextToken_L27 N (f_X7_nextToken_j61 N) N p0 s1
def f_X7_nextToken (N : Nat) (s : Mem) : Option (Int32 × Mem) :=
  if rI s 36 3 = 0 then f_X7_nextToken_j18 N 0 s else
  if rI s 36 3 = 0 then none else
  f_X7_nextToken_j18 N (rI s 43 1) s

def f_X7_isClauseBegun_j49 (N : Nat) (v2 : Int32) (p0 : Bool) (p1 : Bool) (p2 : Int32) (s : Mem) : Option (Bool × Mem) :=
  bnd (f_X5_set N 37 p2 (bI p1) (bI p0) s) fun _ s1 =>
  bnd (f_X5_set N 37 v2 1 (rI s1 39 3) s1) fun _ s2 =>
  lt (wI s2 36 7 1) fun s3 =>
  some (true, s3)
def f_X7_isClauseBegun_j12 (N : Nat) (v1 : Int32) (s : Mem) : Option (Bool × Mem) :=
  bnd (f_X5_isFull N 37 s) fun r1 s1 =>
  if r1 = true then some (false, s1) else
  bnd (f_X5_add N 37 s1) fun r2 s2 =>
  if v1 = 9 then f_X7_isClauseBegun_j49 N r2 true false r2 s2 else
  f_X7_isClauseBegun_j49 N r2 false false r2 s2
def f_X7_isClauseBegun (N : Nat) (a1 : Int32) (s : Mem) : Option (Bool × Mem) :=
  if a1 = 9 then f_X7_isClauseBegun_j12 N a1 s else
  if a1 = 10 then f_X7_isClauseBegun_j12 N a1 s else
  some (false, s)

def f_X7_isOneOpened_j46 (N : Nat) (v1 : Int32) (s : Mem) : Option (Bool × Mem) :=
  bnd (f_X3_push N 41 v1 s) fun _ s1 =>
  some (true, s1)
def f_X7_isOneOpened_j30 (N : Nat) (v1 : Int32) (s : Mem) : Option (Bool × Mem) :=
  if v1 = 14 then (
    lt (wI s 36 8 ((rI s 36 8) + 1)) fun s1 =>
    f_X7_isOneOpened_j46 N v1 s1)
  else
  f_X7_isOneOpened_j46 N v1 s
def f_X7_isOneOpened_j14 (N : Nat) (v1 : Int32) (s : Mem) : Option (Bool × Mem) :=
  if v1 = 14 then (
    if (rI s 36 8) < 3 then f_X7_isOneOpened_j30 N v1 s else
    some (false, s))
  else
  f_X7_isOneOpened_j30 N v1 s
def f_X7_isOneOpened (N : Nat) (a1 : Int32) (s : Mem) : Option (Bool × Mem) :=
  if a1 = 13 then f_X7_isOneOpened_j14 N a1 s else
  if a1 = 14 then f_X7_isOneOpened_j14 N a1 s else
  some (false, s)

def f_X7_addStep (N : Nat) (a1 : Int32) (a2 : Int32) (a3 : Int32) (s : Mem) : Option (Unit × Mem) :=
  bnd (f_X5_add N 39 s) fun r1 s1 =>
  bnd (f_X5_set N 39 r1 0 a1 s1) fun _ s2 =>
  bnd (f_X5_set N 39 r1 1 a2 s2) fun _ s3 =>
  bnd (f_X5_set N 39 r1 2 a3 s3) fun _ s4 =>
  some ((), s4)

def f_X7_isValueTold (N : Nat) (a1 : Int32) (s : Mem) : Option (Bool × Mem) :=
  if (rI s 36 10) = 0 then (
    lt (wI s 36 9 ((a1 * 1000) + (rI s 36 6))) fun s4 =>
    lt (wI s4 36 7 3) fun s5 =>
    some (true, s5))
  else
  bnd (f_X7_addStep N (rI s 36 10) (rI s 36 9) ((a1 * 1000) + (rI s 36 6)) s) fun _ s1 =>
  lt (wI s1 36 10 0) fun s2 =>
  lt (wI s2 36 7 5) fun s3 =>
  some (true, s3)

def f_X7_isValueBegun (N : Nat) (a1 : Int32) (s : Mem) : Option (Bool × Mem) :=
  if a1 < 1 then some (false, s) else
  if a1 ≤ 8 then (
    if a1 = 8 then (
      lt (wI s 36 7 2) fun s1 =>
      some (true, s1))
    else
    bnd (f_X7_isValueTold N a1 s) fun r2 s2 =>
    some (r2, s2))
  else
  some (false, s)

def f_X7_isSignTold (N : Nat) (a1 : Int32) (s : Mem) : Option (Bool × Mem) :=
  if a1 < 16 then some (false, s) else
  if a1 ≤ 18 then (
    lt (wI s 36 10 a1) fun s1 =>
    lt (wI s1 36 7 4) fun s2 =>
    some (true, s2))
  else
  some (false, s)

def f_X7_settle_L2 (N : Nat) : Nat → Int32 → Int32 → Mem → Option (Unit × Mem)
  | 0, _, _, _ => none
  | n + 1, v1, v2, s =>
    if 200 ≤ v2 then some ((), s) else
    bnd (f_X3_top N 41 s) fun r1 s1 =>
    if r1 = 14 then some ((), s1) else
    if v1 ≤ r1 then (
      bnd (f_X3_pop N 41 s1) fun r2 s2 =>
      bnd (f_X7_addStep N r2 0 0 s2) fun _ s3 =>
      f_X7_settle_L2 N n v1 (v2 + 1) s3)
    else
    some ((), s1)
def f_X7_settle (N : Nat) (a1 : Int32) (s : Mem) : Option (Unit × Mem) :=
  f_X7_settle_L2 N N a1 0 s

def f_X7_isOneFollowed_j71 (N : Nat) (v1 : Int32) (s : Mem) : Option (Bool × Mem) :=
  if v1 = 19 then (
    if (rI s 36 8) ≤ 0 then (
      bnd (f_X7_settle N 11 s) fun _ s1 =>
      bnd (f_X5_set N 37 ((rI s1 37 3) - 1) 2 (rI s1 39 3) s1) fun _ s2 =>
      lt (wI s2 36 7 0) fun s3 =>
      some (true, s3))
    else
    some (false, s))
  else
  some (false, s)
def f_X7_isOneFollowed_j12 (N : Nat) (v1 : Int32) (s : Mem) : Option (Bool × Mem) :=
  bnd (f_X7_settle N v1 s) fun _ s1 =>
  bnd (f_X3_push N 41 v1 s1) fun _ s2 =>
  lt (wI s2 36 7 1) fun s3 =>
  some (true, s3)
def f_X7_isOneFollowed (N : Nat) (a1 : Int32) (s : Mem) : Option (Bool × Mem) :=
  if a1 = 12 then f_X7_isOneFollowed_j12 N a1 s else
  if a1 = 11 then f_X7_isOneFollowed_j12 N a1 s else
  if a1 = 15 then (
    if (rI s 36 8) ≤ 0 then f_X7_isOneFollowed_j71 N a1 s else
    bnd (f_X7_settle N 11 s) fun _ s1 =>
    bnd (f_X3_pop N 41 s1) fun r2 s2 =>
    lt (wI s2 36 8 ((rI s2 36 8) - 1)) fun s3 =>
    some (true, s3))
  else
  f_X7_isOneFollowed_j71 N a1 s

def f_X7_isAccepted_j62 (N : Nat) (s : Mem) : Option (Bool × Mem) :=
  some (true, s)
def f_X7_isAccepted (N : Nat) (a1 : Int32) (s : Mem) : Option (Bool × Mem) :=
  if (rI s 36 7) = 0 then (
    bnd (f_X7_isClauseBegun N a1 s) fun r1 s1 =>
    some (r1, s1))
  else
  if (rI s 36 7) = 1 then (
    bnd (f_X7_isOneOpened N a1 s) fun r2 s2 =>
    if r2 = true then f_X7_isAccepted_j62 N s2 else
    bnd (f_X7_isValueBegun N a1 s2) fun r3 s3 =>
    if r3 = true then f_X7_isAccepted_j62 N s3 else
    some (false, s3))
  else
  if (rI s 36 7) = 2 then (
    if a1 = 1 then (
      bnd (f_X7_isValueTold N 8 s) fun r4 s4 =>
      if r4 = true then some (true, s4) else
      some (false, s4))
    else
    some (false, s))
  else
  if (rI s 36 7) = 3 then (
    bnd (f_X7_isSignTold N a1 s) fun r5 s5 =>
    some (r5, s5))
  else
  if (rI s 36 7) = 4 then (
    bnd (f_X7_isValueBegun N a1 s) fun r6 s6 =>
    some (r6, s6))
  else
  bnd (f_X7_isOneFollowed N a1 s) fun r7 s7 =>
  some (r7, s7)

def f_X7_readTape_j64 (N : Nat) (s : Mem) : Option (Int32 × Mem) :=
  if (rI s 36 7) = 0 then some ((-3), s) else
  some ((rI s 36 4), s)
def f_X7_readTape_L48 (N : Nat) (k64 : Mem → Option (Int32 × Mem)) : Nat → Int32 → Mem → Option (Int32 × Mem)
  | 0, _, _ => none
  | n + 1, v2, s =>
    if 200 < v2 then some ((rI s 36 4), s) else
    bnd (f_X7_nextToken N s) fun r1 s1 =>
    if r1 = 0 then k64 s1 else
    bnd (f_X7_isAccepted N r1 s1) fun r2 s2 =>
    if r2 = true then f_X7_readTape_L48 N k64 n (v2 + 1) s2 else
    some ((rI s2 36 4), s2)
def f_X7_readTape (N : Nat) (s : Mem) : Option (Int32 × Mem) :=
  lt (wI s 36 3 1) fun s1 =>
  bnd (f_X5_clear N 37 s1) fun _ s2 =>
  bnd (f_X5_clear N 39 s2) fun _ s3 =>
  bnd (f_X3_clear N 41 s3) fun _ s4 =>
  lt (wI s4 36 5 0) fun s5 =>
  lt (wI s5 36 8 0) fun s6 =>
  lt (wI s6 36 10 0) fun s7 =>
  lt (wI s7 36 7 0) fun s8 =>
  f_X7_readTape_L48 N (f_X7_readTape_j64 N) N 0 s8

def f_X8_isWithin (N : Nat) (a0 : Int32) (a1 : Int32) (a2 : Int32) (s : Mem) : Option (Bool × Mem) :=
  if a0 < a1 then some (false, s) else
  if a2 < a0 then some (false, s) else
  some (true, s)

def f_X8_isHouse (N : Nat) (a0 : Int32) (s : Mem) : Option (Bool × Mem) :=
  bnd (f_X8_isWithin N a0 0 5 s) fun r1 s1 =>
  some (r1, s1)

def f_X8_person (N : Nat) (a1 : Int32) (a2 : Int32) (a3 : Int32) (s : Mem) : Option (Int32 × Mem) :=
  bnd (f_X8_isHouse N a1 s) fun r1 s1 =>
  if r1 = true then (
    bnd (f_X8_isWithin N a2 0 9 s1) fun r2 s2 =>
    if r2 = true then (
      bnd (f_X8_isWithin N a3 0 1 s2) fun r3 s3 =>
      if r3 = true then (
        bnd (f_X5_isFull N 2 s3) fun r4 s4 =>
        if r4 = true then some ((-2), s4) else
        bnd (f_X5_add N 2 s4) fun r5 s5 =>
        bnd (f_X5_set N 2 r5 0 a1 s5) fun _ s6 =>
        bnd (f_X5_set N 2 r5 1 a2 s6) fun _ s7 =>
        bnd (f_X5_set N 2 r5 2 a3 s7) fun _ s8 =>
        bnd (f_X5_set N 2 r5 3 (-1) s8) fun _ s9 =>
        some (r5, s9))
      else
      some ((-1), s3))
    else
    some ((-1), s2))
  else
  some ((-1), s1)

def f_X8_personOf (N : Nat) (a1 : Int32) (a2 : Int32) (s : Mem) : Option (Int32 × Mem) :=
  bnd (f_X5_has N 2 a1 s) fun r1 s1 =>
  if r1 = true then (
    if a2 = 0 then (
      bnd (f_X5_get N 2 a1 0 s1) fun r2 s2 =>
      some (r2, s2))
    else
    if a2 = 1 then (
      bnd (f_X5_get N 2 a1 1 s1) fun r3 s3 =>
      some (r3, s3))
    else
    if a2 = 2 then (
      bnd (f_X5_get N 2 a1 2 s1) fun r4 s4 =>
      some (r4, s4))
    else
    if a2 = 3 then (
      bnd (f_X0_seen N a1 s1) fun r5 s5 =>
      some (r5, s5))
    else
    if a2 = 4 then (
      bnd (f_X0_papersOf N a1 s1) fun r6 s6 =>
      some (r6, s6))
    else
    if a2 = 5 then (
      bnd (f_X0_isTruthTold N a1 s1) fun r7 s7 =>
      if r7 = true then (
        bnd (f_X5_get N 2 a1 3 s7) fun r8 s8 =>
        some (r8, s8))
      else
      some ((-9), s7))
    else
    some ((-1), s1))
  else
  some ((-1), s1)

def f_X8_isYear (N : Nat) (a0 : Int32) (s : Mem) : Option (Bool × Mem) :=
  bnd (f_X8_isWithin N a0 0 160 s) fun r1 s1 =>
  some (r1, s1)

def f_X8_paper_j211 (N : Nat) (v7 : Int32) (p0 : Int32) (p1 : Int32) (p2 : Int32) (s : Mem) : Option (Int32 × Mem) :=
  bnd (f_X5_set N 4 p2 p1 p0 s) fun _ s1 =>
  some (v7, s1)
def f_X8_paper_j76 (N : Nat) (v1 : Int32) (v2 : Int32) (v3 : Int32) (v4 : Int32) (v5 : Int32) (v6 : Int32) (s : Mem) : Option (Int32 × Mem) :=
  bnd (f_X5_isFull N 4 s) fun r1 s1 =>
  if r1 = true then some ((-2), s1) else
  bnd (f_X0_papersOf N v1 s1) fun r2 s2 =>
  if r2 < 6 then (
    bnd (f_X5_add N 4 s2) fun r3 s3 =>
    bnd (f_X5_set N 4 r3 0 v1 s3) fun _ s4 =>
    bnd (f_X5_set N 4 r3 1 v2 s4) fun _ s5 =>
    bnd (f_X5_set N 4 r3 2 v3 s5) fun _ s6 =>
    bnd (f_X5_set N 4 r3 3 v4 s6) fun _ s7 =>
    bnd (f_X5_set N 4 r3 4 v5 s7) fun _ s8 =>
    if v2 = 5 then f_X8_paper_j211 N r3 v6 5 r3 s8 else
    f_X8_paper_j211 N r3 (-9) 5 r3 s8)
  else
  some ((-2), s2)
def f_X8_paper (N : Nat) (a1 : Int32) (a2 : Int32) (a3 : Int32) (a4 : Int32) (a5 : Int32) (a6 : Int32) (s : Mem) : Option (Int32 × Mem) :=
  bnd (f_X5_has N 2 a1 s) fun r1 s1 =>
  if r1 = true then (
    bnd (f_X8_isWithin N a2 1 7 s1) fun r2 s2 =>
    if r2 = true then (
      bnd (f_X8_isYear N a3 s2) fun r3 s3 =>
      if r3 = true then (
        bnd (f_X8_isYear N a4 s3) fun r4 s4 =>
        if r4 = true then (
          bnd (f_X8_isWithin N a5 0 99 s4) fun r5 s5 =>
          if r5 = true then (
            if a2 = 5 then (
              bnd (f_X5_has N 4 a6 s5) fun r6 s6 =>
              if r6 = true then f_X8_paper_j76 N a1 a2 a3 a4 a5 a6 s6 else
              some ((-1), s6))
            else
            f_X8_paper_j76 N a1 a2 a3 a4 a5 a6 s5)
          else
          some ((-1), s5))
        else
        some ((-1), s4))
      else
      some ((-1), s3))
    else
    some ((-1), s2))
  else
  some ((-1), s1)

def f_X8_paperOf (N : Nat) (a1 : Int32) (a2 : Int32) (s : Mem) : Option (Int32 × Mem) :=
  bnd (f_X5_has N 4 a1 s) fun r1 s1 =>
  if r1 = true then (
    bnd (f_X8_isWithin N a2 0 5 s1) fun r2 s2 =>
    if r2 = true then (
      bnd (f_X5_get N 4 a1 a2 s2) fun r3 s3 =>
      some (r3, s3))
    else
    some ((-1), s2))
  else
  some ((-1), s1)

def f_X8_correct (N : Nat) (a1 : Int32) (a2 : Int32) (s : Mem) : Option (Int32 × Mem) :=
  bnd (f_X5_has N 4 a1 s) fun r1 s1 =>
  if r1 = true then (
    bnd (f_X8_isYear N a2 s1) fun r2 s2 =>
    if r2 = true then (
      bnd (f_X5_get N 4 a1 3 s2) fun r3 s3 =>
      bnd (f_X5_set N 4 a1 3 a2 s3) fun _ s4 =>
      some (r3, s4))
    else
    some ((-1), s2))
  else
  some ((-1), s1)

def f_X8_span (N : Nat) (a1 : Int32) (a2 : Int32) (s : Mem) : Option (Int32 × Mem) :=
  bnd (f_X5_has N 4 a1 s) fun r1 s1 =>
  if r1 = true then (
    bnd (f_X8_isYear N a2 s1) fun r2 s2 =>
    if r2 = true then (
      bnd (f_X0_isInSpan N a1 a2 s2) fun r3 s3 =>
      if r3 = true then some (1, s3) else
      some (0, s3))
    else
    some ((-1), s2))
  else
  some ((-1), s1)

def f_X8_isSheet (N : Nat) (a0 : Int32) (s : Mem) : Option (Bool × Mem) :=
  bnd (f_X8_isWithin N a0 0 3 s) fun r1 s1 =>
  some (r1, s1)

def f_X8_isLifeTable_L13 (N : Nat) (t : Nat) : Nat → Int32 → Mem → Option (Bool × Mem)
  | 0, _, _ => none
  | n + 1, v1, s =>
    if 17 ≤ v1 then some (true, s) else
    bnd (f_X4_get N t v1 s) fun r1 s1 =>
    bnd (f_X8_isWithin N r1 0 100 s1) fun r2 s2 =>
    if r2 = true then f_X8_isLifeTable_L13 N t n (v1 + 1) s2 else
    some (false, s2)
def f_X8_isLifeTable (N : Nat) (t : Nat) (s : Mem) : Option (Bool × Mem) :=
  if (rI s t 2) = 17 then f_X8_isLifeTable_L13 N t N 0 s else
  some (false, s)

def f_X8_life_L43 (N : Nat) : Nat → Int32 → Int32 → Mem → Option (Int32 × Mem)
  | 0, _, _, _ => none
  | n + 1, v1, v3, s =>
    if 17 ≤ v3 then some (1, s) else
    gin v1 4 (
      bnd (f_X4_get N (47 + 1 + 2 * v1.toNatClampNeg) v3 s) fun r2 s2 =>
      bnd (f_X5_set N 6 v3 0 r2 s2) fun _ s3 =>
      f_X8_life_L43 N n v1 (v3 + 1) s3)
def f_X8_life (N : Nat) (a1 : Int32) (s : Mem) : Option (Int32 × Mem) :=
  bnd (f_X8_isSheet N a1 s) fun r1 s1 =>
  if r1 = true then (
    gin a1 4 (
      bnd (f_X4_refusalAs N (47 + 1 + 2 * a1.toNatClampNeg) 1 s1) fun r3 s3 =>
      if r3 = 0 then (
        gin a1 4 (
          bnd (f_X8_isLifeTable N (47 + 1 + 2 * a1.toNatClampNeg) s3) fun r5 s5 =>
          if r5 = true then f_X8_life_L43 N N a1 0 s5 else
          some ((-4), s5)))
      else
      some (r3, s3)))
  else
  some ((-1), s1)

def f_X8_weight (N : Nat) (a1 : Int32) (a2 : Int32) (s : Mem) : Option (Int64 × Mem) :=
  bnd (f_X5_has N 2 a1 s) fun r1 s1 =>
  if r1 = true then (
    bnd (f_X8_isYear N a2 s1) fun r2 s2 =>
    if r2 = true then (
      bnd (f_X2_weigh N a1 s2) fun _ s3 =>
      bnd (f_X2_of N a2 s3) fun r4 s4 =>
      some (r4, s4))
    else
    some ((-1), s2))
  else
  some ((-1), s1)

def f_X8_all (N : Nat) (a1 : Int32) (s : Mem) : Option (Int64 × Mem) :=
  bnd (f_X5_has N 2 a1 s) fun r1 s1 =>
  if r1 = true then (
    bnd (f_X2_weigh N a1 s1) fun _ s2 =>
    some ((rL s2 31 2), s2))
  else
  some ((-1), s1)

def f_X8_best (N : Nat) (a1 : Int32) (s : Mem) : Option (Int32 × Mem) :=
  bnd (f_X5_has N 2 a1 s) fun r1 s1 =>
  if r1 = true then (
    bnd (f_X2_weigh N a1 s1) fun _ s2 =>
    some ((rI s2 31 3), s2))
  else
  some ((-1), s1)

def f_X8_greatestCommonDivisor_L9 (N : Nat) : Nat → Int64 → Int64 → Int32 → Mem → Option (Int64 × Mem)
  | 0, _, _, _, _ => none
  | n + 1, v4, v6, v8, s =>
    if 200 ≤ v8 then some (v4, s) else
    if v6 = 0 then some (v4, s) else
    gnzL v6 (f_X8_greatestCommonDivisor_L9 N n v6 (v4 - v4 / v6 * v6) (v8 + 1) s)
def f_X8_greatestCommonDivisor (N : Nat) (a0 : Int64) (a2 : Int64) (s : Mem) : Option (Int64 × Mem) :=
  f_X8_greatestCommonDivisor_L9 N N a0 a2 0 s

def f_X8_share_j106 (N : Nat) (v6 : Int64) (p0 : Int64) (s : Mem) : Option (Int64 × Mem) :=
  gnzL v6 (some ((p0 / v6), s))
def f_X8_share (N : Nat) (a1 : Int32) (a2 : Int32) (a3 : Int32) (s : Mem) : Option (Int64 × Mem) :=
  bnd (f_X5_has N 2 a1 s) fun r1 s1 =>
  if r1 = true then (
    bnd (f_X8_isYear N a2 s1) fun r2 s2 =>
    if r2 = true then (
      bnd (f_X8_isWithin N a3 0 1 s2) fun r3 s3 =>
      if r3 = true then (
        bnd (f_X2_weigh N a1 s3) fun _ s4 =>
        if 0 < (rL s4 31 2) then (
          bnd (f_X2_ofAge N a2 s4) fun r5 s5 =>
          bnd (f_X8_greatestCommonDivisor N r5 (rL s5 31 2) s5) fun r6 s6 =>
          if a3 = 0 then f_X8_share_j106 N (lmax 1 r6) r5 s6 else
          f_X8_share_j106 N (lmax 1 r6) (rL s6 31 2) s6)
        else
        some ((-3), s4))
      else
      some ((-1), s3))
    else
    some ((-1), s2))
  else
  some ((-1), s1)

def f_X8_common_j72 (N : Nat) (k35 : Int32 → Int32 → Int32 → Int32 → Mem → Option (Int32 × Mem)) (v1 : Int32) (v2 : Int32) (v3 : Int32) (v4 : Int32) (s : Mem) : Option (Int32 × Mem) :=
  k35 v1 v2 v3 (v4 + 1) s
def f_X8_common_L35 (N : Nat) : Nat → Int32 → Int32 → Int32 → Int32 → Mem → Option (Int32 × Mem)
  | 0, _, _, _, _, _ => none
  | n + 1, v1, v2, v3, v4, s =>
    if 160 < v4 then some (v3, s) else
    bnd (f_X0_isInSpans N v1 v4 s) fun r1 s1 =>
    if r1 = true then (
      bnd (f_X0_isInSpans N v2 v4 s1) fun r2 s2 =>
      if r2 = true then f_X8_common_j72 N (f_X8_common_L35 N n) v1 v2 (v3 + 1) v4 s2 else
      f_X8_common_j72 N (f_X8_common_L35 N n) v1 v2 v3 v4 s2)
    else
    f_X8_common_j72 N (f_X8_common_L35 N n) v1 v2 v3 v4 s1
def f_X8_common (N : Nat) (a1 : Int32) (a2 : Int32) (s : Mem) : Option (Int32 × Mem) :=
  bnd (f_X5_has N 2 a1 s) fun r1 s1 =>
  if r1 = true then (
    bnd (f_X5_has N 2 a2 s1) fun r2 s2 =>
    if r2 = true then f_X8_common_L35 N N a1 a2 0 0 s2 else
    some ((-1), s2))
  else
  some ((-1), s1)

def f_X8_one_j150 (N : Nat) (v1 : Int32) (v2 : Int32) (s : Mem) : Option (Int32 × Mem) :=
  bnd (f_X8_common N v1 v2 s) fun r1 s1 =>
  if r1 ≤ 0 then some (0, s1) else
  some (1, s1)
def f_X8_one_j134 (N : Nat) (v1 : Int32) (v2 : Int32) (v3 : Bool) (v4 : Bool) (p0 : Bool) (s : Mem) : Option (Int32 × Mem) :=
  if v3 = true then (
    if v4 = true then f_X8_one_j150 N v1 v2 s else
    if p0 = true then f_X8_one_j150 N v1 v2 s else
    some (0, s))
  else
  some (0, s)
def f_X8_one_j100 (N : Nat) (v1 : Int32) (v2 : Int32) (v3 : Bool) (p0 : Bool) (s : Mem) : Option (Int32 × Mem) :=
  bnd (f_X5_get N 2 v1 0 s) fun r1 s1 =>
  bnd (f_X5_get N 2 v2 0 s1) fun r2 s2 =>
  if r1 = r2 then f_X8_one_j134 N v1 v2 v3 p0 true s2 else
  f_X8_one_j134 N v1 v2 v3 p0 false s2
def f_X8_one_j67 (N : Nat) (v1 : Int32) (v2 : Int32) (p0 : Bool) (s : Mem) : Option (Int32 × Mem) :=
  bnd (f_X5_get N 2 v1 1 s) fun r1 s1 =>
  bnd (f_X5_get N 2 v2 1 s1) fun r2 s2 =>
  if r1 = r2 then f_X8_one_j100 N v1 v2 p0 true s2 else
  f_X8_one_j100 N v1 v2 p0 false s2
def f_X8_one (N : Nat) (a1 : Int32) (a2 : Int32) (s : Mem) : Option (Int32 × Mem) :=
  if a1 = a2 then some ((-1), s) else
  bnd (f_X5_has N 2 a1 s) fun r1 s1 =>
  if r1 = true then (
    bnd (f_X5_has N 2 a2 s1) fun r2 s2 =>
    if r2 = true then (
      bnd (f_X5_get N 2 a1 2 s2) fun r3 s3 =>
      bnd (f_X5_get N 2 a2 2 s3) fun r4 s4 =>
      if r3 = r4 then f_X8_one_j67 N a1 a2 true s4 else
      f_X8_one_j67 N a1 a2 false s4)
    else
    some ((-1), s2))
  else
  some ((-1), s1)

def f_X8_cut_j76 (N : Nat) (k27 : Int32 → Int32 → Int32 → Mem → Option (Int32 × Mem)) (v1 : Int32) (v2 : Int32) (v3 : Int32) (s : Mem) : Option (Int32 × Mem) :=
  k27 v1 v2 (v3 + 1) s
def f_X8_cut_j54 (N : Nat) (k27 : Int32 → Int32 → Int32 → Mem → Option (Int32 × Mem)) (v1 : Int32) (v2 : Int32) (v3 : Int32) (p0 : Bool) (s : Mem) : Option (Int32 × Mem) :=
  if p0 = true then (
    bnd (f_X0_spansMeet N v1 v3 v2 s) fun r1 s1 =>
    if r1 = true then some (v3, s1) else
    f_X8_cut_j76 N k27 v1 v2 v3 s1)
  else
  f_X8_cut_j76 N k27 v1 v2 v3 s
def f_X8_cut_j49 (N : Nat) (k27 : Int32 → Int32 → Int32 → Mem → Option (Int32 × Mem)) (v1 : Int32) (v2 : Int32) (v3 : Int32) (s : Mem) : Option (Int32 × Mem) :=
  f_X8_cut_j54 N k27 v1 v2 v3 true s
def f_X8_cut_L27 (N : Nat) : Nat → Int32 → Int32 → Int32 → Mem → Option (Int32 × Mem)
  | 0, _, _, _, _ => none
  | n + 1, v1, v2, v3, s =>
    if v2 ≤ v3 then some ((-3), s) else
    if v3 = 0 then f_X8_cut_j49 N (f_X8_cut_L27 N n) v1 v2 v3 s else
    bnd (f_X0_spansMeet N v1 0 v3 s) fun r1 s1 =>
    if r1 = true then f_X8_cut_j49 N (f_X8_cut_L27 N n) v1 v2 v3 s1 else
    f_X8_cut_j54 N (f_X8_cut_L27 N n) v1 v2 v3 false s1
def f_X8_cut (N : Nat) (a1 : Int32) (s : Mem) : Option (Int32 × Mem) :=
  bnd (f_X5_has N 2 a1 s) fun r1 s1 =>
  if r1 = true then (
    bnd (f_X0_papersOf N a1 s1) fun r2 s2 =>
    f_X8_cut_L27 N N a1 r2 0 s2)
  else
  some ((-1), s1)

def f_X8_rest (N : Nat) (a1 : Int32) (a2 : Int32) (s : Mem) : Option (Int32 × Mem) :=
  if a1 = a2 then some ((-1), s) else
  bnd (f_X5_has N 4 a1 s) fun r1 s1 =>
  if r1 = true then (
    bnd (f_X5_has N 4 a2 s1) fun r2 s2 =>
    if r2 = true then (
      bnd (f_X5_get N 4 a1 6 s2) fun r3 s3 =>
      bnd (f_X8_bit N a2 s3) fun r4 s4 =>
      if (r3 &&& r4) = 0 then (
        if (rI s4 1 7) < 40 then (
          bnd (f_X8_bit N a2 s4) fun r5 s5 =>
          bnd (f_X5_set N 4 a1 6 (r3 ||| r5) s5) fun _ s6 =>
          lt (wI s6 1 7 ((rI s6 1 7) + 1)) fun s7 =>
          some ((rI s7 1 7), s7))
        else
        some ((-2), s4))
      else
      some ((-4), s4))
    else
    some ((-1), s2))
  else
  some ((-1), s1)

def f_X8_stands (N : Nat) (s : Mem) : Option (Int32 × Mem) :=
  bnd (f_X0_standing N s) fun r1 s1 =>
  some (r1, s1)

def f_X8_round (N : Nat) (a1 : Int32) (s : Mem) : Option (Int32 × Mem) :=
  bnd (f_X5_has N 4 a1 s) fun r1 s1 =>
  if r1 = true then (
    bnd (f_X0_restsOver N a1 s1) fun r2 s2 =>
    bnd (f_X8_bit N a1 s2) fun r3 s3 =>
    if (r2 &&& r3) = 0 then some (0, s3) else
    some (1, s3))
  else
  some ((-1), s1)

def f_X8_roots (N : Nat) (a1 : Int32) (s : Mem) : Option (Int32 × Mem) :=
  bnd (f_X5_has N 4 a1 s) fun r1 s1 =>
  if r1 = true then (
    bnd (f_X0_restsOver N a1 s1) fun r2 s2 =>
    bnd (f_X8_bit N a1 s2) fun r3 s3 =>
    bnd (f_X0_restingOnNone N s3) fun r4 s4 =>
    some (((r2 ||| r3) &&& r4), s4))
  else
  some ((-1), s1)

def f_X8_feed_L33 (N : Nat) : Nat → Int64 → Int32 → Int32 → Mem → Option (Int32 × Mem)
  | 0, _, _, _, _ => none
  | n + 1, v1, v3, v4, s =>
    if v3 ≤ v4 then some ((rI s 43 1), s) else
    bnd (f_X3_push N 43 (((v1 >>> ((8 * v4).toInt64 &&& 63)).toInt32) &&& 255) s) fun _ s1 =>
    f_X8_feed_L33 N n v1 v3 (v4 + 1) s1
def f_X8_feed (N : Nat) (a1 : Int64) (a3 : Int32) (s : Mem) : Option (Int32 × Mem) :=
  bnd (f_X8_isWithin N a3 1 8 s) fun r1 s1 =>
  if r1 = true then (
    if ((rI s1 43 1) + a3) ≤ 200 then f_X8_feed_L33 N N a1 a3 0 s1 else
    some ((-2), s1))
  else
  some ((-1), s1)

def f_X8_read (N : Nat) (s : Mem) : Option (Int32 × Mem) :=
  bnd (f_X7_readTape N s) fun r1 s1 =>
  bnd (f_X3_clear N 43 s1) fun _ s2 =>
  if r1 = (-3) then (
    bnd (f_X5_become N 12 37 s2) fun _ s3 =>
    bnd (f_X5_become N 14 39 s3) fun _ s4 =>
    some ((rI s4 12 3), s4))
  else
  some (((-100) - r1), s2)

def f_X8_takes (N : Nat) (a1 : Int32) (s : Mem) : Option (Int32 × Mem) :=
  bnd (f_X5_has N 2 a1 s) fun r1 s1 =>
  if r1 = true then (
    bnd (f_X1_isTaken N a1 s1) fun r2 s2 =>
    if r2 = true then some (1, s2) else
    some (0, s2))
  else
  some ((-1), s1)

def f_X8_clause (N : Nat) (a1 : Int32) (s : Mem) : Option (Int32 × Mem) :=
  bnd (f_X5_has N 2 a1 s) fun r1 s1 =>
  if r1 = true then (
    bnd (f_X1_clauseFor N a1 s1) fun r2 s2 =>
    some (r2, s2))
  else
  some ((-1), s1)

def f_X8_truth (N : Nat) (a1 : Int32) (a2 : Int32) (s : Mem) : Option (Int32 × Mem) :=
  bnd (f_X5_has N 2 a1 s) fun r1 s1 =>
  if r1 = true then (
    bnd (f_X8_isWithin N a2 (-1) 160 s1) fun r2 s2 =>
    if r2 = true then (
      bnd (f_X5_set N 2 a1 3 a2 s2) fun _ s3 =>
      some (1, s3))
    else
    some ((-1), s2))
  else
  some ((-1), s1)

def f_X8_errs_j136 (N : Nat) (k23 : Int32 → Int32 → Int32 → Int32 → Mem → Option (Int32 × Mem)) (v1 : Int32) (v2 : Int32) (v3 : Int32) (v4 : Int32) (s : Mem) : Option (Int32 × Mem) :=
  k23 v1 v2 v3 (v4 + 1) s
def f_X8_errs_j133 (N : Nat) (k23 : Int32 → Int32 → Int32 → Int32 → Mem → Option (Int32 × Mem)) (v1 : Int32) (v2 : Int32) (v3 : Int32) (v4 : Int32) (s : Mem) : Option (Int32 × Mem) :=
  f_X8_errs_j136 N k23 v1 v2 (v3 + 1) v4 s
def f_X8_errs_j85 (N : Nat) (k23 : Int32 → Int32 → Int32 → Int32 → Mem → Option (Int32 × Mem)) (v1 : Int32) (v2 : Int32) (v3 : Int32) (v4 : Int32) (p0 : Bool) (s : Mem) : Option (Int32 × Mem) :=
  bnd (f_X1_isTaken N v4 s) fun r1 s1 =>
  if v2 = 0 then (
    if r1 = true then (
      if p0 = true then f_X8_errs_j133 N k23 v1 v2 v3 v4 s1 else
      f_X8_errs_j136 N k23 v1 v2 v3 v4 s1)
    else
    f_X8_errs_j136 N k23 v1 v2 v3 v4 s1)
  else
  if r1 = true then f_X8_errs_j136 N k23 v1 v2 v3 v4 s1 else
  if p0 = true then f_X8_errs_j136 N k23 v1 v2 v3 v4 s1 else
  f_X8_errs_j133 N k23 v1 v2 v3 v4 s1
def f_X8_errs_L23 (N : Nat) : Nat → Int32 → Int32 → Int32 → Int32 → Mem → Option (Int32 × Mem)
  | 0, _, _, _, _, _ => none
  | n + 1, v1, v2, v3, v4, s =>
    if (rI s 2 3) ≤ v4 then some (v3, s) else
    bnd (f_X0_isTruthTold N v4 s) fun r1 s1 =>
    if r1 = true then (
      bnd (f_X0_seen N v4 s1) fun r2 s2 =>
      bnd (f_X5_get N 2 v4 3 s2) fun r3 s3 =>
      if v1 ≤ (r2 - r3) then f_X8_errs_j85 N (f_X8_errs_L23 N n) v1 v2 v3 v4 false s3 else
      f_X8_errs_j85 N (f_X8_errs_L23 N n) v1 v2 v3 v4 true s3)
    else
    f_X8_errs_j136 N (f_X8_errs_L23 N n) v1 v2 v3 v4 s1
def f_X8_errs (N : Nat) (a1 : Int32) (a2 : Int32) (s : Mem) : Option (Int32 × Mem) :=
  bnd (f_X8_isYear N a1 s) fun r1 s1 =>
  if r1 = true then (
    bnd (f_X8_isWithin N a2 0 1 s1) fun r2 s2 =>
    if r2 = true then f_X8_errs_L23 N N a1 a2 0 0 s2 else
    some ((-1), s2))
  else
  some ((-1), s1)

def f_X8_draw (N : Nat) (a1 : Int32) (a2 : Int32) (a3 : Int32) (a4 : Int32) (s : Mem) : Option (Int32 × Mem) :=
  bnd (f_X5_has N 2 a1 s) fun r1 s1 =>
  if r1 = true then (
    bnd (f_X8_isYear N a2 s1) fun r2 s2 =>
    if r2 = true then (
      bnd (f_X8_isYear N a3 s2) fun r3 s3 =>
      if r3 = true then (
        if a2 ≤ a3 then (
          bnd (f_X8_isWithin N a4 1 99 s3) fun r4 s4 =>
          if r4 = true then (
            bnd (f_X5_isFull N 8 s4) fun r5 s5 =>
            if r5 = true then some ((-2), s5) else
            bnd (f_X5_add N 8 s5) fun r6 s6 =>
            bnd (f_X5_set N 8 r6 0 a1 s6) fun _ s7 =>
            bnd (f_X5_set N 8 r6 1 a2 s7) fun _ s8 =>
            bnd (f_X5_set N 8 r6 2 a3 s8) fun _ s9 =>
            bnd (f_X5_set N 8 r6 3 a4 s9) fun _ s10 =>
            some (r6, s10))
          else
          some ((-1), s4))
        else
        some ((-1), s3))
      else
      some ((-1), s3))
    else
    some ((-1), s2))
  else
  some ((-1), s1)

def f_X8_behind (N : Nat) (a1 : Int32) (s : Mem) : Option (Int32 × Mem) :=
  bnd (f_X5_has N 2 a1 s) fun r1 s1 =>
  if r1 = true then (
    bnd (f_X0_paidBehindSeen N a1 s1) fun r2 s2 =>
    some (r2, s2))
  else
  some ((-1), s1)

def f_X8_suspectsAheadOf_j61 (N : Nat) (k14 : Int32 → Int32 → Int32 → Int32 → Mem → Option (Int32 × Mem)) (v1 : Int32) (v2 : Int32) (v3 : Int32) (v4 : Int32) (s : Mem) : Option (Int32 × Mem) :=
  k14 v1 v2 v3 (v4 + 1) s
def f_X8_suspectsAheadOf_j58 (N : Nat) (k14 : Int32 → Int32 → Int32 → Int32 → Mem → Option (Int32 × Mem)) (v1 : Int32) (v2 : Int32) (v3 : Int32) (v4 : Int32) (s : Mem) : Option (Int32 × Mem) :=
  f_X8_suspectsAheadOf_j61 N k14 v1 v2 (v3 + 1) v4 s
def f_X8_suspectsAheadOf_L14 (N : Nat) : Nat → Int32 → Int32 → Int32 → Int32 → Mem → Option (Int32 × Mem)
  | 0, _, _, _, _, _ => none
  | n + 1, v1, v2, v3, v4, s =>
    if (rI s 2 3) ≤ v4 then some (v3, s) else
    bnd (f_X0_paidBehindSeen N v4 s) fun r1 s1 =>
    if v2 < r1 then f_X8_suspectsAheadOf_j58 N (f_X8_suspectsAheadOf_L14 N n) v1 v2 v3 v4 s1 else
    if r1 = v2 then (
      if v1 ≤ v4 then f_X8_suspectsAheadOf_j61 N (f_X8_suspectsAheadOf_L14 N n) v1 v2 v3 v4 s1 else
      f_X8_suspectsAheadOf_j58 N (f_X8_suspectsAheadOf_L14 N n) v1 v2 v3 v4 s1)
    else
    f_X8_suspectsAheadOf_j61 N (f_X8_suspectsAheadOf_L14 N n) v1 v2 v3 v4 s1
def f_X8_suspectsAheadOf (N : Nat) (a1 : Int32) (s : Mem) : Option (Int32 × Mem) :=
  bnd (f_X0_paidBehindSeen N a1 s) fun r1 s1 =>
  f_X8_suspectsAheadOf_L14 N N a1 r1 0 0 s1

def f_X8_suspect_j51 (N : Nat) (k15 : Int32 → Int32 → Mem → Option (Int32 × Mem)) (v1 : Int32) (v2 : Int32) (s : Mem) : Option (Int32 × Mem) :=
  k15 v1 (v2 + 1) s
def f_X8_suspect_L15 (N : Nat) : Nat → Int32 → Int32 → Mem → Option (Int32 × Mem)
  | 0, _, _, _ => none
  | n + 1, v1, v2, s =>
    if (rI s 2 3) ≤ v2 then some ((-3), s) else
    bnd (f_X0_paidBehindSeen N v2 s) fun r1 s1 =>
    if r1 ≤ 0 then f_X8_suspect_j51 N (f_X8_suspect_L15 N n) v1 v2 s1 else
    bnd (f_X8_suspectsAheadOf N v2 s1) fun r2 s2 =>
    if r2 = v1 then some (v2, s2) else
    f_X8_suspect_j51 N (f_X8_suspect_L15 N n) v1 v2 s2
def f_X8_suspect (N : Nat) (a1 : Int32) (s : Mem) : Option (Int32 × Mem) :=
  if a1 < 0 then some ((-3), s) else
  if a1 < 10 then f_X8_suspect_L15 N N a1 0 s else
  some ((-3), s)

def f_X8_heap (N : Nat) (a1 : Int32) (s : Mem) : Option (Int32 × Mem) :=
  bnd (f_X0_countsWithEnding N 0 s) fun r1 s1 =>
  bnd (f_X0_countsWithEnding N 5 s1) fun r2 s2 =>
  bnd (f_X0_counts N s2) fun r3 s3 =>
  if a1 = 0 then some (r1, s3) else
  if a1 = 1 then some (r2, s3) else
  if a1 = 2 then some (((r3 - r1) - r2), s3) else
  if a1 = 3 then (
    if 0 < r3 then gnz r3 (some (((500 * (r1 + r2)) / r3), s3)) else
    some (0, s3))
  else
  some ((-1), s3)

def f_X8_isOld (N : Nat) (a1 : Int32) (a2 : Int32) (a3 : Int32) (s : Mem) : Option (Bool × Mem) :=
  bnd (f_X2_weigh N a1 s) fun _ s1 =>
  if 0 < (rL s1 31 2) then (
    if a3 = 0 then (
      bnd (f_X2_ofAge N a2 s1) fun r4 s4 =>
      if r4 = (rL s4 31 2) then some (true, s4) else
      some (false, s4))
    else
    if a3 = 1 then (
      bnd (f_X2_bestAge N s1) fun r3 s3 =>
      if r3 < a2 then some (false, s3) else
      some (true, s3))
    else
    bnd (f_X2_ofAge N a2 s1) fun r2 s2 =>
    if r2 ≤ 0 then some (false, s2) else
    some (true, s2))
  else
  some (false, s1)

def f_X8_valley_j77 (N : Nat) (k31 : Int32 → Int32 → Int32 → Int32 → Int32 → Mem → Option (Int32 × Mem)) (v1 : Int32) (v2 : Int32) (v3 : Int32) (v4 : Int32) (v5 : Int32) (s : Mem) : Option (Int32 × Mem) :=
  k31 v1 v2 v3 v4 (v5 + 1) s
def f_X8_valley_L31 (N : Nat) : Nat → Int32 → Int32 → Int32 → Int32 → Int32 → Mem → Option (Int32 × Mem)
  | 0, _, _, _, _, _, _ => none
  | n + 1, v1, v2, v3, v4, v5, s =>
    if (rI s 2 3) ≤ v5 then some (v4, s) else
    bnd (f_X5_get N 2 v5 0 s) fun r1 s1 =>
    if r1 = v1 then (
      bnd (f_X8_isOld N v5 v2 v3 s1) fun r2 s2 =>
      if r2 = true then f_X8_valley_j77 N (f_X8_valley_L31 N n) v1 v2 v3 (v4 + 1) v5 s2 else
      f_X8_valley_j77 N (f_X8_valley_L31 N n) v1 v2 v3 v4 v5 s2)
    else
    f_X8_valley_j77 N (f_X8_valley_L31 N n) v1 v2 v3 v4 v5 s1
def f_X8_valley (N : Nat) (a1 : Int32) (a2 : Int32) (a3 : Int32) (s : Mem) : Option (Int32 × Mem) :=
  bnd (f_X8_isHouse N a1 s) fun r1 s1 =>
  if r1 = true then (
    bnd (f_X8_isYear N a2 s1) fun r2 s2 =>
    if r2 = true then (
      bnd (f_X8_isWithin N a3 0 2 s2) fun r3 s3 =>
      if r3 = true then f_X8_valley_L31 N N a1 a2 a3 0 0 s3 else
      some ((-1), s3))
    else
    some ((-1), s2))
  else
  some ((-1), s1)

def f_X8_question (N : Nat) (a1 : Int32) (a2 : Int32) (a3 : Int32) (s : Mem) : Option (Int32 × Mem) :=
  bnd (f_X5_has N 2 a1 s) fun r1 s1 =>
  if r1 = true then (
    bnd (f_X8_isYear N a2 s1) fun r2 s2 =>
    if r2 = true then (
      bnd (f_X8_isWithin N a3 1 99 s2) fun r3 s3 =>
      if r3 = true then (
        bnd (f_X5_isFull N 10 s3) fun r4 s4 =>
        if r4 = true then some ((-2), s4) else
        bnd (f_X5_add N 10 s4) fun r5 s5 =>
        bnd (f_X5_set N 10 r5 0 a1 s5) fun _ s6 =>
        bnd (f_X5_set N 10 r5 1 a2 s6) fun _ s7 =>
        bnd (f_X5_set N 10 r5 2 a3 s7) fun _ s8 =>
        bnd (f_X5_set N 10 r5 3 0 s8) fun _ s9 =>
        some (r5, s9))
      else
      some ((-1), s3))
    else
    some ((-1), s2))
  else
  some ((-1), s1)

def f_X8_answer_j52 (N : Nat) (p0 : Int32) (p1 : Int32) (p2 : Int32) (s : Mem) : Option (Int32 × Mem) :=
  bnd (f_X5_set N 10 p2 p1 p0 s) fun _ s1 =>
  bnd (f_X0_answered N s1) fun r2 s2 =>
  some (r2, s2)
def f_X8_answer (N : Nat) (a1 : Int32) (a2 : Bool) (s : Mem) : Option (Int32 × Mem) :=
  bnd (f_X5_has N 10 a1 s) fun r1 s1 =>
  if r1 = true then (
    bnd (f_X5_get N 10 a1 3 s1) fun r2 s2 =>
    if r2 = 0 then (
      if a2 = true then f_X8_answer_j52 N 1 3 a1 s2 else
      f_X8_answer_j52 N 2 3 a1 s2)
    else
    some ((-4), s2))
  else
  some ((-1), s1)

def f_X8_next_j163 (N : Nat) (k36 : Int32 → Int32 → Int64 → Int32 → Mem → Option (Int32 × Mem)) (v1 : Int32) (v2 : Int32) (v3 : Int64) (v5 : Int32) (s : Mem) : Option (Int32 × Mem) :=
  k36 v1 v2 v3 (v5 + 1) s
def f_X8_next_j157 (N : Nat) (k36 : Int32 → Int32 → Int64 → Int32 → Mem → Option (Int32 × Mem)) (v1 : Int32) (v5 : Int32) (v8 : Int64) (s : Mem) : Option (Int32 × Mem) :=
  f_X8_next_j163 N k36 v1 v5 v8 v5 s
def f_X8_next_L36 (N : Nat) : Nat → Int32 → Int32 → Int64 → Int32 → Mem → Option (Int32 × Mem)
  | 0, _, _, _, _, _ => none
  | n + 1, v1, v2, v3, v5, s =>
    if (rI s 10 3) ≤ v5 then some (v2, s) else
    bnd (f_X5_get N 10 v5 0 s) fun r1 s1 =>
    if r1 = v1 then (
      bnd (f_X5_get N 10 v5 3 s1) fun r2 s2 =>
      if r2 = 0 then (
        bnd (f_X5_get N 10 v5 1 s2) fun r3 s3 =>
        bnd (f_X2_upTo N r3 s3) fun r4 s4 =>
        bnd (f_X5_get N 10 v5 2 s4) fun r5 s5 =>
        if v2 = (-3) then f_X8_next_j157 N (f_X8_next_L36 N n) v1 v5 (r5.toInt64 * (lmax r4 ((rL s5 31 2) - r4))) s5 else
        if v3 ≤ (r5.toInt64 * (lmax r4 ((rL s5 31 2) - r4))) then f_X8_next_j163 N (f_X8_next_L36 N n) v1 v2 v3 v5 s5 else
        f_X8_next_j157 N (f_X8_next_L36 N n) v1 v5 (r5.toInt64 * (lmax r4 ((rL s5 31 2) - r4))) s5)
      else
      f_X8_next_j163 N (f_X8_next_L36 N n) v1 v2 v3 v5 s2)
    else
    f_X8_next_j163 N (f_X8_next_L36 N n) v1 v2 v3 v5 s1
def f_X8_next (N : Nat) (a1 : Int32) (s : Mem) : Option (Int32 × Mem) :=
  bnd (f_X5_has N 2 a1 s) fun r1 s1 =>
  if r1 = true then (
    bnd (f_X2_weigh N a1 s1) fun _ s2 =>
    f_X8_next_L36 N N a1 (-3) 0 0 s2)
  else
  some ((-1), s1)

def f_X8_addRow (N : Nat) (a1 : Int32) (a2 : Int32) (s : Mem) : Option (Unit × Mem) :=
  bnd (f_X5_add N 45 s) fun r1 s1 =>
  bnd (f_X5_set N 45 r1 0 a1 s1) fun _ s2 =>
  bnd (f_X5_set N 45 r1 1 a2 s2) fun _ s3 =>
  some ((), s3)

def f_X8_prove_j121 (N : Nat) (k64 : Int32 → Int32 → Mem → Option (Int32 × Mem)) (v1 : Int32) (v2 : Int32) (s : Mem) : Option (Int32 × Mem) :=
  k64 v1 (v2 + 1) s
def f_X8_prove_j118 (N : Nat) (k64 : Int32 → Int32 → Mem → Option (Int32 × Mem)) (v1 : Int32) (v2 : Int32) (p0 : Bool) (p1 : Int32) (s : Mem) : Option (Int32 × Mem) :=
  bnd (f_X8_addRow N p1 (bI p0) s) fun _ s1 =>
  f_X8_prove_j121 N k64 v1 v2 s1
def f_X8_prove_L64 (N : Nat) : Nat → Int32 → Int32 → Mem → Option (Int32 × Mem)
  | 0, _, _, _ => none
  | n + 1, v1, v2, s =>
    if (rI s 4 3) ≤ v2 then some ((rI s 45 3), s) else
    bnd (f_X0_isOf N v2 v1 s) fun r1 s1 =>
    if r1 = true then (
      bnd (f_X0_isInSpan N v2 (rI s1 31 3) s1) fun r2 s2 =>
      if r2 = true then f_X8_prove_j118 N (f_X8_prove_L64 N n) v1 v2 true v2 s2 else
      f_X8_prove_j118 N (f_X8_prove_L64 N n) v1 v2 false v2 s2)
    else
    f_X8_prove_j121 N (f_X8_prove_L64 N n) v1 v2 s1
def f_X8_prove (N : Nat) (a1 : Int32) (s : Mem) : Option (Int32 × Mem) :=
  bnd (f_X5_has N 2 a1 s) fun r1 s1 =>
  if r1 = true then (
    bnd (f_X2_weigh N a1 s1) fun _ s2 =>
    if (rI s2 31 3) = (-3) then some ((-3), s2) else
    bnd (f_X5_clear N 45 s2) fun _ s3 =>
    bnd (f_X8_addRow N a1 (rI s3 31 3) s3) fun _ s4 =>
    f_X8_prove_L64 N N a1 0 s4)
  else
  some ((-1), s1)

def f_X8_row (N : Nat) (a1 : Int32) (a2 : Int32) (s : Mem) : Option (Int32 × Mem) :=
  bnd (f_X5_has N 45 a1 s) fun r1 s1 =>
  if r1 = true then (
    bnd (f_X8_isWithin N a2 0 1 s1) fun r2 s2 =>
    if r2 = true then (
      bnd (f_X5_get N 45 a1 a2 s2) fun r3 s3 =>
      some (r3, s3))
    else
    some ((-9), s2))
  else
  some ((-9), s1)

def f_X8_alterRow (N : Nat) (a1 : Int32) (a2 : Int32) (a3 : Int32) (s : Mem) : Option (Int32 × Mem) :=
  bnd (f_X5_has N 45 a1 s) fun r1 s1 =>
  if r1 = true then (
    bnd (f_X8_isWithin N a2 0 1 s1) fun r2 s2 =>
    if r2 = true then (
      bnd (f_X5_get N 45 a1 a2 s2) fun r3 s3 =>
      bnd (f_X5_set N 45 a1 a2 a3 s3) fun _ s4 =>
      some (r3, s4))
    else
    some ((-9), s2))
  else
  some ((-9), s1)

def f_X8_judge_j180 (N : Nat) (v1 : Int32) (v3 : Int32) (s : Mem) : Option (Int32 × Mem) :=
  bnd (f_X0_nextPaperOf N v1 v3 s) fun r1 s1 =>
  if r1 = (-3) then some (0, s1) else
  some (20, s1)
def f_X8_judge_j166 (N : Nat) (k92 : Int32 → Int32 → Int32 → Int32 → Mem → Option (Int32 × Mem)) (k180 : Int32 → Int32 → Mem → Option (Int32 × Mem)) (v1 : Int32) (v2 : Int32) (v3 : Int32) (v4 : Int32) (p0 : Bool) (p1 : Int32) (s : Mem) : Option (Int32 × Mem) :=
  if p1 = (bI p0) then k92 v1 v2 v3 (v4 + 1) s else
  some ((v4 + 1), s)
def f_X8_judge_L92 (N : Nat) (k180 : Int32 → Int32 → Mem → Option (Int32 × Mem)) : Nat → Int32 → Int32 → Int32 → Int32 → Mem → Option (Int32 × Mem)
  | 0, _, _, _, _, _ => none
  | n + 1, v1, v2, v3, v4, s =>
    if (rI s 45 3) ≤ v4 then k180 v1 v3 s else
    bnd (f_X0_nextPaperOf N v1 v3 s) fun r1 s1 =>
    if r1 = (-3) then some ((v4 + 1), s1) else
    bnd (f_X5_get N 45 v4 0 s1) fun r2 s2 =>
    if r2 = r1 then (
      bnd (f_X5_get N 45 v4 1 s2) fun r3 s3 =>
      bnd (f_X0_isInSpan N r1 v2 s3) fun r4 s4 =>
      if r4 = true then f_X8_judge_j166 N (f_X8_judge_L92 N k180 n) k180 v1 v2 r1 v4 true r3 s4 else
      f_X8_judge_j166 N (f_X8_judge_L92 N k180 n) k180 v1 v2 r1 v4 false r3 s4)
    else
    some ((v4 + 1), s2)
def f_X8_judge (N : Nat) (s : Mem) : Option (Int32 × Mem) :=
  if (rI s 45 3) = 0 then some (30, s) else
  bnd (f_X5_get N 45 0 0 s) fun r1 s1 =>
  bnd (f_X5_get N 45 0 1 s1) fun r2 s2 =>
  bnd (f_X5_has N 2 r1 s2) fun r3 s3 =>
  if r3 = true then (
    bnd (f_X2_weigh N r1 s3) fun _ s4 =>
    if (rI s4 31 3) = (-3) then some (1, s4) else
    if (rI s4 31 3) = r2 then f_X8_judge_L92 N (f_X8_judge_j180 N) N r1 r2 (-3) 1 s4 else
    some (1, s4))
  else
  some (1, s3)

def f_X8_sheet (N : Nat) (a1 : Int32) (a2 : Int32) (a3 : Int32) (s : Mem) : Option (Int32 × Mem) :=
  bnd (f_X8_isSheet N a1 s) fun r1 s1 =>
  if r1 = true then (
    bnd (f_X8_isWithin N a2 (-1) 3 s1) fun r2 s2 =>
    if r2 = true then (
      if a2 = (-1) then (
        gin a1 4 (
          bnd (f_X4_become N (47 + 1 + 2 * a1.toNatClampNeg) (-1) 0 s2) fun _ s6 =>
          some (1, s6)))
      else
      if a3 ≤ 40 then (
        if 0 ≤ a3 then (
          gin a1 4 (
            bnd (f_X4_become N (47 + 1 + 2 * a1.toNatClampNeg) a2 a3 s2) fun _ s4 =>
            some (1, s4)))
        else
        some ((-14), s2))
      else
      some ((-1), s2))
    else
    some ((-1), s2))
  else
  some ((-1), s1)

def f_X8_put (N : Nat) (a1 : Int32) (a2 : Int32) (a3 : Int32) (s : Mem) : Option (Int32 × Mem) :=
  bnd (f_X8_isSheet N a1 s) fun r1 s1 =>
  if r1 = true then (
    gin a1 4 (
      if (rI s1 (47 + 1 + 2 * a1.toNatClampNeg) 1) = (-1) then some ((-11), s1) else
      gin a1 4 (
        bnd (f_X4_has N (47 + 1 + 2 * a1.toNatClampNeg) a2 s1) fun r4 s4 =>
        if r4 = true then (
          gin a1 4 (
            bnd (f_X4_set N (47 + 1 + 2 * a1.toNatClampNeg) a2 a3 s4) fun _ s6 =>
            some (1, s6)))
        else
        some ((-12), s4))))
  else
  some ((-1), s1)

def f_X8_isSort (N : Nat) (a0 : Int32) (s : Mem) : Option (Bool × Mem) :=
  bnd (f_X8_isWithin N a0 0 3 s) fun r1 s1 =>
  some (r1, s1)

def f_X8_item (N : Nat) (a1 : Int32) (a2 : Int32) (a3 : Int32) (s : Mem) : Option (Int32 × Mem) :=
  bnd (f_X8_isSheet N a1 s) fun r1 s1 =>
  if r1 = true then (
    bnd (f_X8_isSort N a2 s1) fun r2 s2 =>
    if r2 = true then (
      gin a1 4 (
        bnd (f_X4_refusalAs N (47 + 1 + 2 * a1.toNatClampNeg) a2 s2) fun r4 s4 =>
        if r4 = 0 then (
          gin a1 4 (
            bnd (f_X4_has N (47 + 1 + 2 * a1.toNatClampNeg) a3 s4) fun r6 s6 =>
            if r6 = true then (
              gin a1 4 (
                bnd (f_X4_get N (47 + 1 + 2 * a1.toNatClampNeg) a3 s6) fun r8 s8 =>
                some (r8, s8)))
            else
            some ((-12), s6)))
        else
        some (r4, s4)))
    else
    some ((-1), s2))
  else
  some ((-1), s1)

def f_X8_register_j130 (N : Nat) (k67 : Int32 → Int32 → Nat → Int32 → Int32 → Int32 → Mem → Option (Int32 × Mem)) (v1 : Int32) (v4 : Int32) (v5 : Nat) (v7 : Int32) (v8 : Int32) (v9 : Int32) (s : Mem) : Option (Int32 × Mem) :=
  k67 v1 v4 v5 v7 (v8 + 2) (v9 + 1) s
def f_X8_register_L67 (N : Nat) : Nat → Int32 → Int32 → Nat → Int32 → Int32 → Int32 → Mem → Option (Int32 × Mem)
  | 0, _, _, _, _, _, _, _ => none
  | n + 1, v1, v4, v5, v7, v8, v9, s =>
    if v4 ≤ v9 then some (v7, s) else
    bnd (f_X4_has N v5 v8 s) fun r1 s1 =>
    if r1 = true then (
      bnd (f_X4_has N v5 (v8 + 1) s1) fun r2 s2 =>
      if r2 = true then (
        bnd (f_X4_get N v5 v8 s2) fun r3 s3 =>
        bnd (f_X4_get N v5 (v8 + 1) s3) fun r4 s4 =>
        bnd (f_X8_paper N v1 3 r3 r4 10 0 s4) fun r5 s5 =>
        if r5 < 0 then f_X8_register_j130 N (f_X8_register_L67 N n) v1 v4 v5 v7 v8 v9 s5 else
        f_X8_register_j130 N (f_X8_register_L67 N n) v1 v4 v5 (v7 + 1) v8 v9 s5)
      else
      some ((-12), s2))
    else
    some ((-12), s1)
def f_X8_register (N : Nat) (a1 : Int32) (a2 : Int32) (a3 : Int32) (a4 : Int32) (s : Mem) : Option (Int32 × Mem) :=
  bnd (f_X8_isSheet N a2 s) fun r1 s1 =>
  if r1 = true then (
    bnd (f_X5_has N 2 a1 s1) fun r2 s2 =>
    if r2 = true then (
      bnd (f_X8_isWithin N a4 0 10 s2) fun r3 s3 =>
      if r3 = true then (
        gin a2 4 (
          bnd (f_X4_refusalAs N (47 + 1 + 2 * a2.toNatClampNeg) 0 s3) fun r5 s5 =>
          if r5 = 0 then f_X8_register_L67 N N a1 a4 (47 + 1 + 2 * a2.toNatClampNeg) 0 a3 0 s5 else
          some (r5, s5)))
      else
      some ((-1), s3))
    else
    some ((-1), s2))
  else
  some ((-1), s1)

def f_X8_shelve (N : Nat) (a1 : Int32) (a2 : Int32) (a3 : Int32) (s : Mem) : Option (Int32 × Mem) :=
  bnd (f_X5_set N 56 a1 0 a2 s) fun _ s1 =>
  bnd (f_X5_set N 56 a1 1 a3 s1) fun _ s2 =>
  some (1, s2)

def f_X8_shelveRow_j75 (N : Nat) (v2 : Int32) (p0 : Int32) (p1 : Int32) (s : Mem) : Option (Int32 × Mem) :=
  bnd (f_X8_shelve N p1 p0 v2 s) fun r1 s1 =>
  some (r1, s1)
def f_X8_shelveRow_j27 (N : Nat) (v1 : Int32) (v2 : Int32) (p0 : Bool) (s : Mem) : Option (Int32 × Mem) :=
  gin v2 4 (
    bnd (f_X5_set N 56 v1 2 (rI s (47 + 1 + 2 * v2.toNatClampNeg) 1) s) fun _ s2 =>
    gin v2 4 (
      bnd (f_X5_set N 56 v1 3 (rI s2 (47 + 1 + 2 * v2.toNatClampNeg) 2) s2) fun _ s4 =>
      if p0 = true then f_X8_shelveRow_j75 N v2 3 v1 s4 else
      f_X8_shelveRow_j75 N v2 2 v1 s4))
def f_X8_shelveRow (N : Nat) (a1 : Int32) (a2 : Int32) (s : Mem) : Option (Int32 × Mem) :=
  bnd (f_X8_isSheet N a2 s) fun r1 s1 =>
  if r1 = true then (
    gin a2 4 (
      if (rI s1 (47 + 1 + 2 * a2.toNatClampNeg) 1) = (-1) then f_X8_shelveRow_j27 N a1 a2 true s1 else
      f_X8_shelveRow_j27 N a1 a2 false s1))
  else
  some ((-1), s1)

def f_X8_shelf (N : Nat) (a1 : Int32) (a2 : Int32) (a3 : Int32) (s : Mem) : Option (Int32 × Mem) :=
  bnd (f_X5_has N 56 a1 s) fun r1 s1 =>
  if r1 = true then (
    if a2 = 0 then (
      bnd (f_X5_has N 4 a3 s1) fun r2 s2 =>
      if r2 = true then (
        bnd (f_X8_shelve N a1 a2 a3 s2) fun r3 s3 =>
        some (r3, s3))
      else
      some ((-1), s2))
    else
    if a2 = 1 then (
      bnd (f_X5_has N 2 a3 s1) fun r4 s4 =>
      if r4 = true then (
        bnd (f_X8_shelve N a1 a2 a3 s4) fun r5 s5 =>
        some (r5, s5))
      else
      some ((-1), s4))
    else
    if a2 = 2 then (
      bnd (f_X8_isSheet N a3 s1) fun r6 s6 =>
      if r6 = true then (
        bnd (f_X8_shelveRow N a1 a3 s6) fun r7 s7 =>
        some (r7, s7))
      else
      some ((-1), s6))
    else
    if a2 = 3 then (
      bnd (f_X8_shelve N a1 a2 0 s1) fun r8 s8 =>
      some (r8, s8))
    else
    some ((-1), s1))
  else
  some ((-1), s1)

def f_X8_heldOn_j53 (N : Nat) (v2 : Int32) (v3 : Int32) (s : Mem) : Option (Int32 × Mem) :=
  if v2 = 1 then (
    bnd (f_X5_has N 2 v3 s) fun r1 s1 =>
    if r1 = true then some (v2, s1) else
    some (3, s1))
  else
  some (v2, s)
def f_X8_heldOn (N : Nat) (a1 : Int32) (s : Mem) : Option (Int32 × Mem) :=
  bnd (f_X5_has N 56 a1 s) fun r1 s1 =>
  if r1 = true then (
    bnd (f_X5_get N 56 a1 0 s1) fun r2 s2 =>
    bnd (f_X5_get N 56 a1 1 s2) fun r3 s3 =>
    if r2 = 0 then (
      bnd (f_X5_has N 4 r3 s3) fun r4 s4 =>
      if r4 = true then f_X8_heldOn_j53 N r2 r3 s4 else
      some (3, s4))
    else
    f_X8_heldOn_j53 N r2 r3 s3)
  else
  some (3, s1)

def f_X8_kindOn (N : Nat) (a1 : Int32) (s : Mem) : Option (Int32 × Mem) :=
  bnd (f_X5_get N 56 a1 0 s) fun r1 s1 =>
  if r1 = 1 then some (8, s1) else
  bnd (f_X5_get N 56 a1 1 s1) fun r2 s2 =>
  bnd (f_X5_get N 4 r2 1 s2) fun r3 s3 =>
  some (r3, s3)

def f_X8_taken_j63 (N : Nat) (v1 : Int32) (v2 : Int32) (v3 : Bool) (p0 : Bool) (p1 : Bool) (s : Mem) : Option (Int32 × Mem) :=
  if (bI p1) = (bI p0) then (
    if v3 = true then (
      bnd (f_X5_get N 56 v1 2 s) fun r4 s4 =>
      if r4 = (v2 - 10) then (
        bnd (f_X5_get N 56 v1 3 s4) fun r5 s5 =>
        some (r5, s5))
      else
      some ((-13), s4))
    else
    bnd (f_X8_kindOn N v1 s) fun r1 s1 =>
    bnd (f_X8_isUnder N r1 v2 s1) fun r2 s2 =>
    if r2 = true then (
      bnd (f_X5_get N 56 v1 1 s2) fun r3 s3 =>
      some (r3, s3))
    else
    some ((-13), s2))
  else
  some ((-13), s)
def f_X8_taken_j35 (N : Nat) (v1 : Int32) (v2 : Int32) (v3 : Bool) (s : Mem) : Option (Int32 × Mem) :=
  bnd (f_X8_heldOn N v1 s) fun r1 s1 =>
  if r1 = 3 then some ((-11), s1) else
  if r1 = 2 then f_X8_taken_j63 N v1 v2 v3 true v3 s1 else
  f_X8_taken_j63 N v1 v2 v3 false v3 s1
def f_X8_taken (N : Nat) (a1 : Int32) (a2 : Int32) (s : Mem) : Option (Int32 × Mem) :=
  bnd (f_X8_isSort N (a2 - 10) s) fun r1 s1 =>
  bnd (f_X5_has N 56 a1 s1) fun r2 s2 =>
  if r2 = true then (
    if r1 = true then f_X8_taken_j35 N a1 a2 r1 s2 else
    bnd (f_X8_isWithin N a2 0 8 s2) fun r3 s3 =>
    if r3 = true then f_X8_taken_j35 N a1 a2 r1 s3 else
    some ((-1), s3))
  else
  some ((-1), s2)

def f_X8_act_j104 (N : Nat) (v2 : Int32) (v3 : Int32) (p0 : Int32) (s : Mem) : Option (Int32 × Mem) :=
  lt (wI s 58 3 p0) fun s1 =>
  bnd (f_X6_perform N v2 v3 s1) fun r2 s2 =>
  some (r2, s2)
def f_X8_act (N : Nat) (a1 : Int32) (a2 : Int32) (a3 : Int32) (s : Mem) : Option (Int32 × Mem) :=
  bnd (f_X3_clear N 59 s) fun _ s1 =>
  bnd (f_X8_heldOn N a1 s1) fun r2 s2 =>
  if r2 = 3 then some (0, s2) else
  if r2 = 2 then some (0, s2) else
  bnd (f_X8_kindOn N a1 s2) fun r3 s3 =>
  lt (wI s3 58 1 r3) fun s4 =>
  bnd (f_X5_get N 56 a1 1 s4) fun r5 s5 =>
  lt (wI s5 58 2 r5) fun s6 =>
  if r2 = 1 then (
    bnd (f_X0_seen N (rI s6 58 2) s6) fun r8 s8 =>
    f_X8_act_j104 N a2 a3 r8 s8)
  else
  bnd (f_X5_get N 4 (rI s6 58 2) 3 s6) fun r7 s7 =>
  f_X8_act_j104 N a2 a3 r7 s7

def f_X8_trace (N : Nat) (a1 : Int32) (s : Mem) : Option (Int32 × Mem) :=
  bnd (f_X3_has N 59 a1 s) fun r1 s1 =>
  if r1 = true then (
    bnd (f_X3_get N 59 a1 s1) fun r2 s2 =>
    some (r2, s2))
  else
  some ((-3), s1)

def f_X8_many (N : Nat) (a1 : Int32) (s : Mem) : Option (Int32 × Mem) :=
  if a1 = 0 then some ((rI s 2 3), s) else
  if a1 = 1 then some ((rI s 4 3), s) else
  if a1 = 2 then some ((rI s 12 3), s) else
  if a1 = 3 then some ((rI s 1 7), s) else
  if a1 = 4 then some ((rI s 8 3), s) else
  if a1 = 5 then some ((rI s 10 3), s) else
  if a1 = 6 then (
    bnd (f_X0_answered N s) fun r1 s1 =>
    some (r1, s1))
  else
  if a1 = 7 then some ((rI s 45 3), s) else
  if a1 = 8 then some ((rI s 43 1), s) else
  if a1 = 9 then some ((rI s 59 1), s) else
  some ((-1), s)

def f_X0_become_k (N : Nat) (s : Mem) : Option (Unit × Mem) :=
  bnd (f_X5_become N 17 2 s) fun _ s1 =>
  bnd (f_X5_become N 19 4 s1) fun _ s2 =>
  bnd (f_X5_become N 21 6 s2) fun _ s3 =>
  bnd (f_X5_become N 23 8 s3) fun _ s4 =>
  bnd (f_X5_become N 25 10 s4) fun _ s5 =>
  bnd (f_X5_become N 27 12 s5) fun _ s6 =>
  bnd (f_X5_become N 29 14 s6) fun _ s7 =>
  lt (wI s7 16 7 (rI s7 1 7)) fun s8 =>
  some ((), s8)

def f_X0_become_b (N : Nat) (s : Mem) : Option (Unit × Mem) :=
  bnd (f_X5_become N 2 17 s) fun _ s1 =>
  bnd (f_X5_become N 4 19 s1) fun _ s2 =>
  bnd (f_X5_become N 6 21 s2) fun _ s3 =>
  bnd (f_X5_become N 8 23 s3) fun _ s4 =>
  bnd (f_X5_become N 10 25 s4) fun _ s5 =>
  bnd (f_X5_become N 12 27 s5) fun _ s6 =>
  bnd (f_X5_become N 14 29 s6) fun _ s7 =>
  lt (wI s7 1 7 (rI s7 16 7)) fun s8 =>
  some ((), s8)

def f_X8_keep (N : Nat) (s : Mem) : Option (Int32 × Mem) :=
  bnd (f_X0_become_k N s) fun _ s1 =>
  lt (wI s1 0 2 1) fun s2 =>
  some (1, s2)

def f_X8_again (N : Nat) (s : Mem) : Option (Int32 × Mem) :=
  if (rI s 0 2) = 0 then some ((-3), s) else
  bnd (f_X0_become_b N s) fun _ s1 =>
  some (1, s1)

def f_X9_in (N : Nat) (a0 : Int32) (a1 : Int32) (a2 : Int32) (s : Mem) : Option (Bool × Mem) :=
  if a0 < a1 then some (false, s) else
  if a2 < a0 then some (false, s) else
  some (true, s)

def f_X9_isPerson (N : Nat) (a1 : Int32) (s : Mem) : Option (Bool × Mem) :=
  bnd (f_X9_in N a1 0 ((rI s 61 0) - 1) s) fun r1 s1 =>
  some (r1, s1)

def f_X9_isPaper (N : Nat) (a1 : Int32) (s : Mem) : Option (Bool × Mem) :=
  bnd (f_X9_in N a1 0 ((rI s 61 2) - 1) s) fun r1 s1 =>
  some (r1, s1)

def f_X9_isYear (N : Nat) (a0 : Int32) (s : Mem) : Option (Bool × Mem) :=
  bnd (f_X9_in N a0 0 160 s) fun r1 s1 =>
  some (r1, s1)

def f_X9_person (N : Nat) (a1 : Int32) (a2 : Int32) (a3 : Int32) (s : Mem) : Option (Int32 × Mem) :=
  bnd (f_X9_in N a1 0 5 s) fun r1 s1 =>
  if r1 = true then (
    bnd (f_X9_in N a2 0 9 s1) fun r2 s2 =>
    if r2 = true then (
      bnd (f_X9_in N a3 0 1 s2) fun r3 s3 =>
      if r3 = true then (
        if (rI s3 61 0) = 10 then some ((-2), s3) else
        gin (4 * (rI s3 61 0)) 40 (
          lt (wI s3 62 (4 * (rI s3 61 0)).toNatClampNeg a1) fun s4 =>
          gin ((4 * (rI s4 61 0)) + 1) 40 (
            lt (wI s4 62 ((4 * (rI s4 61 0)) + 1).toNatClampNeg a2) fun s5 =>
            gin ((4 * (rI s5 61 0)) + 2) 40 (
              lt (wI s5 62 ((4 * (rI s5 61 0)) + 2).toNatClampNeg a3) fun s6 =>
              gin ((4 * (rI s6 61 0)) + 3) 40 (
                lt (wI s6 62 ((4 * (rI s6 61 0)) + 3).toNatClampNeg (-9)) fun s7 =>
                lt (wI s7 61 0 ((rI s7 61 0) + 1)) fun s8 =>
                some (((rI s8 61 0) - 1), s8))))))
      else
      some ((-1), s3))
    else
    some ((-1), s2))
  else
  some ((-1), s1)

def f_X9_papersOf_j31 (N : Nat) (k4 : Int32 → Int32 → Int32 → Mem → Option (Int32 × Mem)) (v1 : Int32) (v3 : Int32) (p0 : Bool) (p1 : Int32) (s : Mem) : Option (Int32 × Mem) :=
  k4 v1 (p1 + (bI p0)) (v3 + 1) s
def f_X9_papersOf_L4 (N : Nat) : Nat → Int32 → Int32 → Int32 → Mem → Option (Int32 × Mem)
  | 0, _, _, _, _ => none
  | n + 1, v1, v2, v3, s =>
    if (rI s 61 2) ≤ v3 then some (v2, s) else
    gin (6 * v3) 180 (
      if (rI s 63 (6 * v3).toNatClampNeg) = v1 then f_X9_papersOf_j31 N (f_X9_papersOf_L4 N n) v1 v3 true v2 s else
      f_X9_papersOf_j31 N (f_X9_papersOf_L4 N n) v1 v3 false v2 s)
def f_X9_papersOf (N : Nat) (a1 : Int32) (s : Mem) : Option (Int32 × Mem) :=
  f_X9_papersOf_L4 N N a1 0 0 s

def f_X9_seenOf_j83 (N : Nat) (k4 : Int32 → Int32 → Int32 → Mem → Option (Int32 × Mem)) (v1 : Int32) (v3 : Int32) (p0 : Int32) (s : Mem) : Option (Int32 × Mem) :=
  k4 v1 p0 (v3 + 1) s
def f_X9_seenOf_j61 (N : Nat) (k4 : Int32 → Int32 → Int32 → Mem → Option (Int32 × Mem)) (v1 : Int32) (v2 : Int32) (v3 : Int32) (p0 : Bool) (s : Mem) : Option (Int32 × Mem) :=
  if p0 = true then gin ((6 * v3) + 2) 180 (f_X9_seenOf_j83 N k4 v1 v3 (rI s 63 ((6 * v3) + 2).toNatClampNeg) s) else
  f_X9_seenOf_j83 N k4 v1 v3 v2 s
def f_X9_seenOf_j60 (N : Nat) (k4 : Int32 → Int32 → Int32 → Mem → Option (Int32 × Mem)) (v1 : Int32) (v2 : Int32) (v3 : Int32) (s : Mem) : Option (Int32 × Mem) :=
  f_X9_seenOf_j61 N k4 v1 v2 v3 false s
def f_X9_seenOf_L4 (N : Nat) : Nat → Int32 → Int32 → Int32 → Mem → Option (Int32 × Mem)
  | 0, _, _, _, _ => none
  | n + 1, v1, v2, v3, s =>
    if (rI s 61 2) ≤ v3 then some (v2, s) else
    gin (6 * v3) 180 (
      if (rI s 63 (6 * v3).toNatClampNeg) = v1 then (
        gin ((6 * v3) + 1) 180 (
          if (rI s 63 ((6 * v3) + 1).toNatClampNeg) = 6 then f_X9_seenOf_j60 N (f_X9_seenOf_L4 N n) v1 v2 v3 s else
          gin ((6 * v3) + 2) 180 (
            if (rI s 63 ((6 * v3) + 2).toNatClampNeg) ≤ v2 then f_X9_seenOf_j60 N (f_X9_seenOf_L4 N n) v1 v2 v3 s else
            f_X9_seenOf_j61 N (f_X9_seenOf_L4 N n) v1 v2 v3 true s)))
      else
      f_X9_seenOf_j60 N (f_X9_seenOf_L4 N n) v1 v2 v3 s)
def f_X9_seenOf (N : Nat) (a1 : Int32) (s : Mem) : Option (Int32 × Mem) :=
  f_X9_seenOf_L4 N N a1 0 0 s

def f_X9_personOf (N : Nat) (a1 : Int32) (a2 : Int32) (s : Mem) : Option (Int32 × Mem) :=
  bnd (f_X9_isPerson N a1 s) fun r1 s1 =>
  if r1 = true then (
    bnd (f_X9_in N a2 0 5 s1) fun r2 s2 =>
    if r2 = true then (
      if 3 ≤ a2 then (
        if a2 = 3 then (
          bnd (f_X9_seenOf N a1 s2) fun r4 s4 =>
          some (r4, s4))
        else
        if a2 = 4 then (
          bnd (f_X9_papersOf N a1 s2) fun r3 s3 =>
          some (r3, s3))
        else
        gin ((4 * a1) + 3) 40 (some ((rI s2 62 ((4 * a1) + 3).toNatClampNeg), s2)))
      else
      gin ((4 * a1) + a2) 40 (some ((rI s2 62 ((4 * a1) + a2).toNatClampNeg), s2)))
    else
    some ((-1), s2))
  else
  some ((-1), s1)

def f_X9_paper_j161 (N : Nat) (p0 : Int32) (p1 : Int32) (s : Mem) : Option (Int32 × Mem) :=
  gin p1 180 (
    lt (wI s 63 p1.toNatClampNeg p0) fun s1 =>
    lt (wI s1 61 2 ((rI s1 61 2) + 1)) fun s2 =>
    some (((rI s2 61 2) - 1), s2))
def f_X9_paper_j60 (N : Nat) (v1 : Int32) (v2 : Int32) (v3 : Int32) (v4 : Int32) (v5 : Int32) (v6 : Int32) (s : Mem) : Option (Int32 × Mem) :=
  if (rI s 61 2) = 30 then some ((-2), s) else
  bnd (f_X9_papersOf N v1 s) fun r1 s1 =>
  if r1 = 6 then some ((-2), s1) else
  gin (6 * (rI s1 61 2)) 180 (
    lt (wI s1 63 (6 * (rI s1 61 2)).toNatClampNeg v1) fun s2 =>
    gin ((6 * (rI s1 61 2)) + 1) 180 (
      lt (wI s2 63 ((6 * (rI s1 61 2)) + 1).toNatClampNeg v2) fun s3 =>
      gin ((6 * (rI s1 61 2)) + 2) 180 (
        lt (wI s3 63 ((6 * (rI s1 61 2)) + 2).toNatClampNeg v3) fun s4 =>
        gin ((6 * (rI s1 61 2)) + 3) 180 (
          lt (wI s4 63 ((6 * (rI s1 61 2)) + 3).toNatClampNeg v4) fun s5 =>
          gin ((6 * (rI s1 61 2)) + 4) 180 (
            lt (wI s5 63 ((6 * (rI s1 61 2)) + 4).toNatClampNeg v5) fun s6 =>
            if v2 = 5 then f_X9_paper_j161 N v6 ((6 * (rI s1 61 2)) + 5) s6 else
            f_X9_paper_j161 N (-9) ((6 * (rI s1 61 2)) + 5) s6)))))
def f_X9_paper (N : Nat) (a1 : Int32) (a2 : Int32) (a3 : Int32) (a4 : Int32) (a5 : Int32) (a6 : Int32) (s : Mem) : Option (Int32 × Mem) :=
  bnd (f_X9_isPerson N a1 s) fun r1 s1 =>
  if r1 = true then (
    bnd (f_X9_in N a2 1 7 s1) fun r2 s2 =>
    if r2 = true then (
      bnd (f_X9_isYear N a3 s2) fun r3 s3 =>
      if r3 = true then (
        bnd (f_X9_isYear N a4 s3) fun r4 s4 =>
        if r4 = true then (
          bnd (f_X9_in N a5 0 99 s4) fun r5 s5 =>
          if r5 = true then (
            if a2 = 5 then (
              bnd (f_X9_isPaper N a6 s5) fun r6 s6 =>
              if r6 = true then f_X9_paper_j60 N a1 a2 a3 a4 a5 a6 s6 else
              some ((-1), s6))
            else
            f_X9_paper_j60 N a1 a2 a3 a4 a5 a6 s5)
          else
          some ((-1), s5))
        else
        some ((-1), s4))
      else
      some ((-1), s3))
    else
    some ((-1), s2))
  else
  some ((-1), s1)

def f_X9_paperOf (N : Nat) (a1 : Int32) (a2 : Int32) (s : Mem) : Option (Int32 × Mem) :=
  bnd (f_X9_isPaper N a1 s) fun r1 s1 =>
  if r1 = true then (
    bnd (f_X9_in N a2 0 5 s1) fun r2 s2 =>
    if r2 = true then gin ((6 * a1) + a2) 180 (some ((rI s2 63 ((6 * a1) + a2).toNatClampNeg), s2)) else
    some ((-1), s2))
  else
  some ((-1), s1)

def f_X9_correct (N : Nat) (a1 : Int32) (a2 : Int32) (s : Mem) : Option (Int32 × Mem) :=
  bnd (f_X9_isPaper N a1 s) fun r1 s1 =>
  if r1 = true then (
    bnd (f_X9_isYear N a2 s1) fun r2 s2 =>
    if r2 = true then (
      gin ((6 * a1) + 3) 180 (
        lt (rI s2 63 ((6 * a1) + 3).toNatClampNeg) fun x3 =>
        gin ((6 * a1) + 3) 180 (
          lt (wI s2 63 ((6 * a1) + 3).toNatClampNeg a2) fun s4 =>
          some (x3, s4))))
    else
    some ((-1), s2))
  else
  some ((-1), s1)

def f_X9_unlike_j38 (N : Nat) (v0 : Int32) (v1 : Int32) (p0 : Bool) (p1 : Bool) (s : Mem) : Option (Int32 × Mem) :=
  if (v0 - v0 / 10 * 10) = (v1 - v1 / 10 * 10) then some ((((bI p1) + (bI p0)) + 0), s) else
  some ((((bI p1) + (bI p0)) + 1), s)
def f_X9_unlike_j16 (N : Nat) (v0 : Int32) (v1 : Int32) (p0 : Bool) (s : Mem) : Option (Int32 × Mem) :=
  if ((v0 / 10) - (v0 / 10) / 10 * 10) = ((v1 / 10) - (v1 / 10) / 10 * 10) then f_X9_unlike_j38 N v0 v1 false p0 s else
  f_X9_unlike_j38 N v0 v1 true p0 s
def f_X9_unlike (N : Nat) (a0 : Int32) (a1 : Int32) (s : Mem) : Option (Int32 × Mem) :=
  if (a0 / 100) = (a1 / 100) then f_X9_unlike_j16 N a0 a1 false s else
  f_X9_unlike_j16 N a0 a1 true s

def f_X9_spans_j139 (N : Nat) (v2 : Int32) (v5 : Int32) (p0 : Int32) (s : Mem) : Option (Bool × Mem) :=
  bnd (f_X9_in N v2 (v5 - p0) (v5 + p0) s) fun r1 s1 =>
  some (r1, s1)
def f_X9_spans (N : Nat) (a1 : Int32) (a2 : Int32) (s : Mem) : Option (Bool × Mem) :=
  gin ((6 * a1) + 2) 180 (
    lt (rI s 63 ((6 * a1) + 2).toNatClampNeg) fun x1 =>
    gin ((6 * a1) + 3) 180 (
      lt (rI s 63 ((6 * a1) + 3).toNatClampNeg) fun x2 =>
      if a2 ≤ x1 then (
        gin ((6 * a1) + 1) 180 (
          if (rI s 63 ((6 * a1) + 1).toNatClampNeg) = 1 then (
            if a2 = x2 then some (true, s) else
            some (false, s))
          else
          if (rI s 63 ((6 * a1) + 1).toNatClampNeg) = 2 then (
            bnd (f_X9_in N a2 (x2 - 1) (x2 + 1) s) fun r3 s3 =>
            some (r3, s3))
          else
          if (rI s 63 ((6 * a1) + 1).toNatClampNeg) = 3 then (
            if (x2 - x2 / 10 * 10) = 0 then f_X9_spans_j139 N a2 (x1 - x2) 5 s else
            if (x2 - x2 / 10 * 10) = 5 then f_X9_spans_j139 N a2 (x1 - x2) 2 s else
            f_X9_spans_j139 N a2 (x1 - x2) 1 s)
          else
          if (rI s 63 ((6 * a1) + 1).toNatClampNeg) = 4 then (
            bnd (f_X9_in N a2 ((x1 - x2) - 1) (x1 - x2) s) fun r4 s4 =>
            some (r4, s4))
          else
          if (rI s 63 ((6 * a1) + 1).toNatClampNeg) = 5 then (
            bnd (f_X9_unlike N a2 x2 s) fun r5 s5 =>
            if 1 < r5 then some (false, s5) else
            some (true, s5))
          else
          if (rI s 63 ((6 * a1) + 1).toNatClampNeg) = 6 then (
            if (x1 - x2) < a2 then some (false, s) else
            some (true, s))
          else
          if (x2 - 5) < a2 then some (false, s) else
          some (true, s)))
      else
      some (false, s)))

def f_X9_span_j15 (N : Nat) (s : Mem) : Option (Int32 × Mem) :=
  some ((-1), s)
def f_X9_span (N : Nat) (a1 : Int32) (a2 : Int32) (s : Mem) : Option (Int32 × Mem) :=
  bnd (f_X9_isPaper N a1 s) fun r1 s1 =>
  if r1 = true then (
    bnd (f_X9_isYear N a2 s1) fun r2 s2 =>
    if r2 = true then (
      bnd (f_X9_spans N a1 a2 s2) fun r3 s3 =>
      if r3 = true then some (1, s3) else
      some (0, s3))
    else
    f_X9_span_j15 N s2)
  else
  f_X9_span_j15 N s1

def f_X9_isShelf (N : Nat) (a0 : Int32) (s : Mem) : Option (Bool × Mem) :=
  bnd (f_X9_in N a0 0 3 s) fun r1 s1 =>
  some (r1, s1)

def f_X9_lacksSort (N : Nat) (a1 : Int32) (a2 : Int32) (s : Mem) : Option (Int32 × Mem) :=
  gin a1 4 (
    if 0 ≤ (rI s 79 a1.toNatClampNeg) then (
      gin a1 4 (
        if (rI s 79 a1.toNatClampNeg) = a2 then some (0, s) else
        some ((-13), s)))
    else
    some ((-11), s))

def f_X9_life_L111 (N : Nat) : Nat → Int32 → Int32 → Mem → Option (Int32 × Mem)
  | 0, _, _, _ => none
  | n + 1, v1, v4, s =>
    if 17 ≤ v4 then some (1, s) else
    gin ((40 * v1) + v4) 160 (
      gin v4 17 (
        lt (wI s 64 v4.toNatClampNeg ((rL s 81 ((40 * v1) + v4).toNatClampNeg).toInt32)) fun s1 =>
        f_X9_life_L111 N n v1 (v4 + 1) s1))
def f_X9_life_j101 (N : Nat) (v1 : Int32) (v3 : Bool) (s : Mem) : Option (Int32 × Mem) :=
  if v3 = true then f_X9_life_L111 N N v1 0 s else
  some ((-4), s)
def f_X9_life_j94 (N : Nat) (k42 : Int32 → Bool → Int32 → Mem → Option (Int32 × Mem)) (k101 : Int32 → Bool → Mem → Option (Int32 × Mem)) (v1 : Int32) (v4 : Int32) (p0 : Bool) (s : Mem) : Option (Int32 × Mem) :=
  k42 v1 p0 (v4 + 1) s
def f_X9_life_j93 (N : Nat) (k42 : Int32 → Bool → Int32 → Mem → Option (Int32 × Mem)) (k101 : Int32 → Bool → Mem → Option (Int32 × Mem)) (v1 : Int32) (v4 : Int32) (s : Mem) : Option (Int32 × Mem) :=
  f_X9_life_j94 N k42 k101 v1 v4 false s
def f_X9_life_L42 (N : Nat) (k101 : Int32 → Bool → Mem → Option (Int32 × Mem)) : Nat → Int32 → Bool → Int32 → Mem → Option (Int32 × Mem)
  | 0, _, _, _, _ => none
  | n + 1, v1, v3, v4, s =>
    if 17 ≤ v4 then k101 v1 v3 s else
    if v3 = true then (
      gin ((40 * v1) + v4) 160 (
        if (rL s 81 ((40 * v1) + v4).toNatClampNeg) < 0 then f_X9_life_j93 N (f_X9_life_L42 N k101 n) k101 v1 v4 s else
        gin ((40 * v1) + v4) 160 (
          if 100 < (rL s 81 ((40 * v1) + v4).toNatClampNeg) then f_X9_life_j93 N (f_X9_life_L42 N k101 n) k101 v1 v4 s else
          f_X9_life_j94 N (f_X9_life_L42 N k101 n) k101 v1 v4 true s)))
    else
    f_X9_life_j93 N (f_X9_life_L42 N k101 n) k101 v1 v4 s
def f_X9_life_j38 (N : Nat) (v1 : Int32) (p0 : Bool) (s : Mem) : Option (Int32 × Mem) :=
  f_X9_life_L42 N (f_X9_life_j101 N) N v1 p0 0 s
def f_X9_life (N : Nat) (a1 : Int32) (s : Mem) : Option (Int32 × Mem) :=
  bnd (f_X9_isShelf N a1 s) fun r1 s1 =>
  if r1 = true then (
    bnd (f_X9_lacksSort N a1 1 s1) fun r2 s2 =>
    if r2 = 0 then (
      gin a1 4 (
        if (rI s2 80 a1.toNatClampNeg) = 17 then f_X9_life_j38 N a1 true s2 else
        f_X9_life_j38 N a1 false s2))
    else
    some (r2, s2))
  else
  some ((-1), s1)

def f_X9_isLeftOut_j95 (N : Nat) (k5 : Int32 → Int32 → Bool → Int32 → Mem → Option (Bool × Mem)) (v1 : Int32) (v2 : Int32) (v4 : Int32) (p0 : Bool) (s : Mem) : Option (Bool × Mem) :=
  k5 v1 v2 p0 (v4 + 1) s
def f_X9_isLeftOut_j90 (N : Nat) (k5 : Int32 → Int32 → Bool → Int32 → Mem → Option (Bool × Mem)) (v1 : Int32) (v2 : Int32) (v4 : Int32) (s : Mem) : Option (Bool × Mem) :=
  f_X9_isLeftOut_j95 N k5 v1 v2 v4 true s
def f_X9_isLeftOut_j94 (N : Nat) (k5 : Int32 → Int32 → Bool → Int32 → Mem → Option (Bool × Mem)) (v1 : Int32) (v2 : Int32) (v4 : Int32) (s : Mem) : Option (Bool × Mem) :=
  f_X9_isLeftOut_j95 N k5 v1 v2 v4 false s
def f_X9_isLeftOut_j69 (N : Nat) (k5 : Int32 → Int32 → Bool → Int32 → Mem → Option (Bool × Mem)) (v1 : Int32) (v2 : Int32) (v4 : Int32) (v5 : Int32) (s : Mem) : Option (Bool × Mem) :=
  if v5 = 2 then (
    gin ((4 * v4) + 1) 32 (
      if (rI s 67 ((4 * v4) + 1).toNatClampNeg) < v2 then f_X9_isLeftOut_j94 N k5 v1 v2 v4 s else
      f_X9_isLeftOut_j90 N k5 v1 v2 v4 s))
  else
  f_X9_isLeftOut_j94 N k5 v1 v2 v4 s
def f_X9_isLeftOut_j42 (N : Nat) (k5 : Int32 → Int32 → Bool → Int32 → Mem → Option (Bool × Mem)) (v1 : Int32) (v2 : Int32) (v3 : Bool) (v4 : Int32) (p0 : Int32) (s : Mem) : Option (Bool × Mem) :=
  if v3 = true then f_X9_isLeftOut_j90 N k5 v1 v2 v4 s else
  if p0 = 1 then (
    gin ((4 * v4) + 1) 32 (
      if (rI s 67 ((4 * v4) + 1).toNatClampNeg) < v2 then f_X9_isLeftOut_j90 N k5 v1 v2 v4 s else
      f_X9_isLeftOut_j69 N k5 v1 v2 v4 p0 s))
  else
  f_X9_isLeftOut_j69 N k5 v1 v2 v4 p0 s
def f_X9_isLeftOut_L5 (N : Nat) : Nat → Int32 → Int32 → Bool → Int32 → Mem → Option (Bool × Mem)
  | 0, _, _, _, _, _ => none
  | n + 1, v1, v2, v3, v4, s =>
    if (rI s 61 9) ≤ v4 then some (v3, s) else
    gin (4 * v4) 32 (
      if (rI s 67 (4 * v4).toNatClampNeg) = v1 then gin ((4 * v4) + 3) 32 (f_X9_isLeftOut_j42 N (f_X9_isLeftOut_L5 N n) v1 v2 v3 v4 (rI s 67 ((4 * v4) + 3).toNatClampNeg) s) else
      f_X9_isLeftOut_j42 N (f_X9_isLeftOut_L5 N n) v1 v2 v3 v4 0 s)
def f_X9_isLeftOut (N : Nat) (a1 : Int32) (a2 : Int32) (s : Mem) : Option (Bool × Mem) :=
  f_X9_isLeftOut_L5 N N a1 a2 false 0 s

def f_X9_weightOf_j109 (N : Nat) (k39 : Int32 → Int32 → Int64 → Int32 → Mem → Option (Int64 × Mem)) (v1 : Int32) (v2 : Int32) (v4 : Int64) (v6 : Int32) (s : Mem) : Option (Int64 × Mem) :=
  k39 v1 v2 v4 (v6 + 1) s
def f_X9_weightOf_j106 (N : Nat) (k39 : Int32 → Int32 → Int64 → Int32 → Mem → Option (Int64 × Mem)) (v1 : Int32) (v2 : Int32) (v6 : Int32) (p0 : Int64) (p1 : Int64) (s : Mem) : Option (Int64 × Mem) :=
  f_X9_weightOf_j109 N k39 v1 v2 (p1 * p0) v6 s
def f_X9_weightOf_L39 (N : Nat) : Nat → Int32 → Int32 → Int64 → Int32 → Mem → Option (Int64 × Mem)
  | 0, _, _, _, _, _ => none
  | n + 1, v1, v2, v4, v6, s =>
    if (rI s 61 2) ≤ v6 then some (v4, s) else
    gin (6 * v6) 180 (
      if (rI s 63 (6 * v6).toNatClampNeg) = v1 then (
        bnd (f_X9_spans N v6 v2 s) fun r1 s1 =>
        if r1 = true then gin ((6 * v6) + 4) 180 (f_X9_weightOf_j106 N (f_X9_weightOf_L39 N n) v1 v2 v6 ((100 - (rI s1 63 ((6 * v6) + 4).toNatClampNeg)).toInt64) v4 s1) else
        gin ((6 * v6) + 4) 180 (f_X9_weightOf_j106 N (f_X9_weightOf_L39 N n) v1 v2 v6 ((rI s1 63 ((6 * v6) + 4).toNatClampNeg).toInt64) v4 s1))
      else
      f_X9_weightOf_j109 N (f_X9_weightOf_L39 N n) v1 v2 v4 v6 s)
def f_X9_weightOf (N : Nat) (a1 : Int32) (a2 : Int32) (s : Mem) : Option (Int64 × Mem) :=
  bnd (f_X9_seenOf N a1 s) fun r1 s1 =>
  if r1 < a2 then some (0, s1) else
  bnd (f_X9_isLeftOut N a1 a2 s1) fun r2 s2 =>
  if r2 = true then some (0, s2) else
  gin ((r1 - a2) / 10) 17 (f_X9_weightOf_L39 N N a1 a2 ((rI s2 64 ((r1 - a2) / 10).toNatClampNeg).toInt64) 0 s2)

def f_X9_sumOf_L6 (N : Nat) : Nat → Int32 → Int32 → Int64 → Int32 → Mem → Option (Int64 × Mem)
  | 0, _, _, _, _, _ => none
  | n + 1, v1, v3, v4, v6, s =>
    if v3 < v6 then some (v4, s) else
    bnd (f_X9_weightOf N v1 v6 s) fun r1 s1 =>
    f_X9_sumOf_L6 N n v1 v3 (v4 + r1) (v6 + 1) s1
def f_X9_sumOf (N : Nat) (a1 : Int32) (a2 : Int32) (a3 : Int32) (s : Mem) : Option (Int64 × Mem) :=
  f_X9_sumOf_L6 N N a1 a3 0 a2 s

def f_X9_allOf (N : Nat) (a1 : Int32) (s : Mem) : Option (Int64 × Mem) :=
  bnd (f_X9_sumOf N a1 0 160 s) fun r1 s1 =>
  some (r1, s1)

def f_X9_weight (N : Nat) (a1 : Int32) (a2 : Int32) (s : Mem) : Option (Int64 × Mem) :=
  bnd (f_X9_isPerson N a1 s) fun r1 s1 =>
  if r1 = true then (
    bnd (f_X9_isYear N a2 s1) fun r2 s2 =>
    if r2 = true then (
      bnd (f_X9_weightOf N a1 a2 s2) fun r3 s3 =>
      some (r3, s3))
    else
    some ((-1), s2))
  else
  some ((-1), s1)

def f_X9_all (N : Nat) (a1 : Int32) (s : Mem) : Option (Int64 × Mem) :=
  bnd (f_X9_isPerson N a1 s) fun r1 s1 =>
  if r1 = true then (
    bnd (f_X9_allOf N a1 s1) fun r2 s2 =>
    some (r2, s2))
  else
  some ((-1), s1)

def f_X9_bestOf_j37 (N : Nat) (k7 : Int32 → Int32 → Int64 → Int32 → Mem → Option (Int32 × Mem)) (v1 : Int32) (v2 : Int32) (v3 : Int64) (v5 : Int32) (s : Mem) : Option (Int32 × Mem) :=
  k7 v1 v2 v3 (v5 + 1) s
def f_X9_bestOf_L7 (N : Nat) : Nat → Int32 → Int32 → Int64 → Int32 → Mem → Option (Int32 × Mem)
  | 0, _, _, _, _, _ => none
  | n + 1, v1, v2, v3, v5, s =>
    if 161 ≤ v5 then some (v2, s) else
    bnd (f_X9_weightOf N v1 v5 s) fun r1 s1 =>
    if r1 ≤ v3 then f_X9_bestOf_j37 N (f_X9_bestOf_L7 N n) v1 v2 v3 v5 s1 else
    f_X9_bestOf_j37 N (f_X9_bestOf_L7 N n) v1 v5 r1 v5 s1
def f_X9_bestOf (N : Nat) (a1 : Int32) (s : Mem) : Option (Int32 × Mem) :=
  f_X9_bestOf_L7 N N a1 (-1) 0 0 s

def f_X9_best (N : Nat) (a1 : Int32) (s : Mem) : Option (Int32 × Mem) :=
  bnd (f_X9_isPerson N a1 s) fun r1 s1 =>
  if r1 = true then (
    bnd (f_X9_bestOf N a1 s1) fun r2 s2 =>
    if 0 ≤ r2 then some (r2, s2) else
    some ((-3), s2))
  else
  some ((-1), s1)

def f_X9_partOf (N : Nat) (a1 : Int32) (a2 : Int32) (s : Mem) : Option (Int64 × Mem) :=
  bnd (f_X9_seenOf N a1 s) fun r1 s1 =>
  bnd (f_X9_sumOf N a1 0 (r1 - a2) s1) fun r2 s2 =>
  some (r2, s2)

def f_X9_divisor_L6 (N : Nat) : Nat → Int64 → Int64 → Mem → Option (Int64 × Mem)
  | 0, _, _, _ => none
  | n + 1, v4, v6, s =>
    if v6 = 0 then some (v4, s) else
    gnzL v6 (f_X9_divisor_L6 N n v6 (v4 - v4 / v6 * v6) s)
def f_X9_divisor (N : Nat) (a0 : Int64) (a2 : Int64) (s : Mem) : Option (Int64 × Mem) :=
  f_X9_divisor_L6 N N a0 a2 s

def f_X9_share (N : Nat) (a1 : Int32) (a2 : Int32) (a3 : Int32) (s : Mem) : Option (Int64 × Mem) :=
  bnd (f_X9_isPerson N a1 s) fun r1 s1 =>
  if r1 = true then (
    bnd (f_X9_isYear N a2 s1) fun r2 s2 =>
    if r2 = true then (
      bnd (f_X9_in N a3 0 1 s2) fun r3 s3 =>
      if r3 = true then (
        bnd (f_X9_allOf N a1 s3) fun r4 s4 =>
        if r4 = 0 then some ((-3), s4) else
        bnd (f_X9_partOf N a1 a2 s4) fun r5 s5 =>
        bnd (f_X9_divisor N r5 r4 s5) fun r6 s6 =>
        if a3 = 0 then gnzL r6 (some ((r5 / r6), s6)) else
        gnzL r6 (some ((r4 / r6), s6)))
      else
      some ((-1), s3))
    else
    some ((-1), s2))
  else
  some ((-1), s1)

def f_X9_isCommon_j47 (N : Nat) (k5 : Int32 → Int32 → Bool → Int32 → Mem → Option (Bool × Mem)) (v1 : Int32) (v2 : Int32) (v4 : Int32) (p0 : Bool) (s : Mem) : Option (Bool × Mem) :=
  k5 v1 v2 p0 (v4 + 1) s
def f_X9_isCommon_j46 (N : Nat) (k5 : Int32 → Int32 → Bool → Int32 → Mem → Option (Bool × Mem)) (v1 : Int32) (v2 : Int32) (v4 : Int32) (s : Mem) : Option (Bool × Mem) :=
  f_X9_isCommon_j47 N k5 v1 v2 v4 false s
def f_X9_isCommon_j42 (N : Nat) (k5 : Int32 → Int32 → Bool → Int32 → Mem → Option (Bool × Mem)) (v1 : Int32) (v2 : Int32) (v4 : Int32) (s : Mem) : Option (Bool × Mem) :=
  f_X9_isCommon_j47 N k5 v1 v2 v4 true s
def f_X9_isCommon_L5 (N : Nat) : Nat → Int32 → Int32 → Bool → Int32 → Mem → Option (Bool × Mem)
  | 0, _, _, _, _, _ => none
  | n + 1, v1, v2, v3, v4, s =>
    if (rI s 61 2) ≤ v4 then some (v3, s) else
    if v3 = true then (
      gin (6 * v4) 180 (
        if (rI s 63 (6 * v4).toNatClampNeg) = v1 then (
          bnd (f_X9_spans N v4 v2 s) fun r1 s1 =>
          if r1 = true then f_X9_isCommon_j42 N (f_X9_isCommon_L5 N n) v1 v2 v4 s1 else
          f_X9_isCommon_j46 N (f_X9_isCommon_L5 N n) v1 v2 v4 s1)
        else
        f_X9_isCommon_j42 N (f_X9_isCommon_L5 N n) v1 v2 v4 s))
    else
    f_X9_isCommon_j46 N (f_X9_isCommon_L5 N n) v1 v2 v4 s
def f_X9_isCommon (N : Nat) (a1 : Int32) (a2 : Int32) (s : Mem) : Option (Bool × Mem) :=
  f_X9_isCommon_L5 N N a1 a2 true 0 s

def f_X9_commonOf_j39 (N : Nat) (k5 : Int32 → Int32 → Int32 → Int32 → Mem → Option (Int32 × Mem)) (v1 : Int32) (v2 : Int32) (v4 : Int32) (p0 : Bool) (p1 : Int32) (s : Mem) : Option (Int32 × Mem) :=
  k5 v1 v2 (p1 + (bI p0)) (v4 + 1) s
def f_X9_commonOf_j38 (N : Nat) (k5 : Int32 → Int32 → Int32 → Int32 → Mem → Option (Int32 × Mem)) (v1 : Int32) (v2 : Int32) (v4 : Int32) (p0 : Int32) (s : Mem) : Option (Int32 × Mem) :=
  f_X9_commonOf_j39 N k5 v1 v2 v4 false p0 s
def f_X9_commonOf_L5 (N : Nat) : Nat → Int32 → Int32 → Int32 → Int32 → Mem → Option (Int32 × Mem)
  | 0, _, _, _, _, _ => none
  | n + 1, v1, v2, v3, v4, s =>
    if 161 ≤ v4 then some (v3, s) else
    bnd (f_X9_isCommon N v1 v4 s) fun r1 s1 =>
    if r1 = true then (
      bnd (f_X9_isCommon N v2 v4 s1) fun r2 s2 =>
      if r2 = true then f_X9_commonOf_j39 N (f_X9_commonOf_L5 N n) v1 v2 v4 true v3 s2 else
      f_X9_commonOf_j38 N (f_X9_commonOf_L5 N n) v1 v2 v4 v3 s2)
    else
    f_X9_commonOf_j38 N (f_X9_commonOf_L5 N n) v1 v2 v4 v3 s1
def f_X9_commonOf (N : Nat) (a1 : Int32) (a2 : Int32) (s : Mem) : Option (Int32 × Mem) :=
  f_X9_commonOf_L5 N N a1 a2 0 0 s

def f_X9_common (N : Nat) (a1 : Int32) (a2 : Int32) (s : Mem) : Option (Int32 × Mem) :=
  bnd (f_X9_isPerson N a1 s) fun r1 s1 =>
  if r1 = true then (
    bnd (f_X9_isPerson N a2 s1) fun r2 s2 =>
    if r2 = true then (
      bnd (f_X9_commonOf N a1 a2 s2) fun r3 s3 =>
      some (r3, s3))
    else
    some ((-1), s2))
  else
  some ((-1), s1)

def f_X9_one_j93 (N : Nat) (v1 : Int32) (v2 : Int32) (p0 : Bool) (s : Mem) : Option (Int32 × Mem) :=
  if p0 = true then (
    bnd (f_X9_commonOf N v1 v2 s) fun r1 s1 =>
    if r1 ≤ 0 then some (0, s1) else
    some (1, s1))
  else
  some (0, s)
def f_X9_one_j92 (N : Nat) (v1 : Int32) (v2 : Int32) (s : Mem) : Option (Int32 × Mem) :=
  f_X9_one_j93 N v1 v2 false s
def f_X9_one_j88 (N : Nat) (v1 : Int32) (v2 : Int32) (s : Mem) : Option (Int32 × Mem) :=
  f_X9_one_j93 N v1 v2 true s
def f_X9_one (N : Nat) (a1 : Int32) (a2 : Int32) (s : Mem) : Option (Int32 × Mem) :=
  bnd (f_X9_isPerson N a1 s) fun r1 s1 =>
  if r1 = true then (
    bnd (f_X9_isPerson N a2 s1) fun r2 s2 =>
    if r2 = true then (
      if a1 = a2 then some ((-1), s2) else
      gin ((4 * a1) + 2) 40 (
        gin ((4 * a2) + 2) 40 (
          if (rI s2 62 ((4 * a1) + 2).toNatClampNeg) = (rI s2 62 ((4 * a2) + 2).toNatClampNeg) then (
            gin (4 * a1) 40 (
              gin (4 * a2) 40 (
                if (rI s2 62 (4 * a1).toNatClampNeg) = (rI s2 62 (4 * a2).toNatClampNeg) then f_X9_one_j88 N a1 a2 s2 else
                gin ((4 * a1) + 1) 40 (
                  gin ((4 * a2) + 1) 40 (
                    if (rI s2 62 ((4 * a1) + 1).toNatClampNeg) = (rI s2 62 ((4 * a2) + 1).toNatClampNeg) then f_X9_one_j88 N a1 a2 s2 else
                    f_X9_one_j92 N a1 a2 s2)))))
          else
          f_X9_one_j92 N a1 a2 s2)))
    else
    some ((-1), s2))
  else
  some ((-1), s1)

def f_X9_orderOf_j99 (N : Nat) (k4 : Int32 → Int32 → Int32 → Mem → Option (Int32 × Mem)) (v1 : Int32) (v2 : Int32) (v3 : Int32) (s : Mem) : Option (Int32 × Mem) :=
  k4 v1 v2 (v3 + 1) s
def f_X9_orderOf_j88 (N : Nat) (k4 : Int32 → Int32 → Int32 → Mem → Option (Int32 × Mem)) (v1 : Int32) (v2 : Int32) (v3 : Int32) (v4 : Int32) (s : Mem) : Option (Int32 × Mem) :=
  gin v4 6 (
    lt (wI s 71 v4.toNatClampNeg v3) fun s1 =>
    f_X9_orderOf_j99 N k4 v1 (v2 + 1) v3 s1)
def f_X9_orderOf_L28 (N : Nat) (k88 : Int32 → Int32 → Int32 → Int32 → Mem → Option (Int32 × Mem)) : Nat → Int32 → Int32 → Int32 → Int32 → Mem → Option (Int32 × Mem)
  | 0, _, _, _, _, _ => none
  | n + 1, v1, v2, v3, v4, s =>
    if v4 ≤ 0 then k88 v1 v2 v3 v4 s else
    gin (v4 - 1) 6 (
      gin ((6 * (rI s 71 (v4 - 1).toNatClampNeg)) + 2) 180 (
        gin ((6 * v3) + 2) 180 (
          if (rI s 63 ((6 * (rI s 71 (v4 - 1).toNatClampNeg)) + 2).toNatClampNeg) ≤ (rI s 63 ((6 * v3) + 2).toNatClampNeg) then k88 v1 v2 v3 v4 s else
          gin (v4 - 1) 6 (
            gin v4 6 (
              lt (wI s 71 v4.toNatClampNeg (rI s 71 (v4 - 1).toNatClampNeg)) fun s1 =>
              f_X9_orderOf_L28 N k88 n v1 v2 v3 (v4 + (-1)) s1)))))
def f_X9_orderOf_L4 (N : Nat) : Nat → Int32 → Int32 → Int32 → Mem → Option (Int32 × Mem)
  | 0, _, _, _, _ => none
  | n + 1, v1, v2, v3, s =>
    if (rI s 61 2) ≤ v3 then some (v2, s) else
    gin (6 * v3) 180 (
      if (rI s 63 (6 * v3).toNatClampNeg) = v1 then f_X9_orderOf_L28 N (f_X9_orderOf_j88 N (f_X9_orderOf_L4 N n)) N v1 v2 v3 v2 s else
      f_X9_orderOf_j99 N (f_X9_orderOf_L4 N n) v1 v2 v3 s)
def f_X9_orderOf (N : Nat) (a1 : Int32) (s : Mem) : Option (Int32 × Mem) :=
  f_X9_orderOf_L4 N N a1 0 0 s

def f_X9_agree_j54 (N : Nat) (k2 : Int32 → Int32 → Int32 → Mem → Option (Bool × Mem)) (v1 : Int32) (v2 : Int32) (v3 : Int32) (v4 : Bool) (s : Mem) : Option (Bool × Mem) :=
  if v4 = true then some (true, s) else
  k2 v1 v2 (v3 + 1) s
def f_X9_agree_j46 (N : Nat) (k15 : Int32 → Int32 → Int32 → Bool → Int32 → Mem → Option (Bool × Mem)) (k54 : Int32 → Int32 → Int32 → Bool → Mem → Option (Bool × Mem)) (v1 : Int32) (v2 : Int32) (v3 : Int32) (v5 : Int32) (p0 : Bool) (s : Mem) : Option (Bool × Mem) :=
  k15 v1 v2 v3 p0 (v5 + 1) s
def f_X9_agree_j45 (N : Nat) (k15 : Int32 → Int32 → Int32 → Bool → Int32 → Mem → Option (Bool × Mem)) (k54 : Int32 → Int32 → Int32 → Bool → Mem → Option (Bool × Mem)) (v1 : Int32) (v2 : Int32) (v3 : Int32) (v5 : Int32) (s : Mem) : Option (Bool × Mem) :=
  f_X9_agree_j46 N k15 k54 v1 v2 v3 v5 false s
def f_X9_agree_L15 (N : Nat) (k54 : Int32 → Int32 → Int32 → Bool → Mem → Option (Bool × Mem)) : Nat → Int32 → Int32 → Int32 → Bool → Int32 → Mem → Option (Bool × Mem)
  | 0, _, _, _, _, _, _ => none
  | n + 1, v1, v2, v3, v4, v5, s =>
    if v2 ≤ v5 then k54 v1 v2 v3 v4 s else
    if v4 = true then (
      gin v5 6 (
        bnd (f_X9_spans N (rI s 71 v5.toNatClampNeg) v3 s) fun r1 s1 =>
        if r1 = true then f_X9_agree_j46 N (f_X9_agree_L15 N k54 n) k54 v1 v2 v3 v5 true s1 else
        f_X9_agree_j45 N (f_X9_agree_L15 N k54 n) k54 v1 v2 v3 v5 s1))
    else
    f_X9_agree_j45 N (f_X9_agree_L15 N k54 n) k54 v1 v2 v3 v5 s
def f_X9_agree_L2 (N : Nat) : Nat → Int32 → Int32 → Int32 → Mem → Option (Bool × Mem)
  | 0, _, _, _, _ => none
  | n + 1, v1, v2, v3, s =>
    if 161 ≤ v3 then some (false, s) else
    f_X9_agree_L15 N (f_X9_agree_j54 N (f_X9_agree_L2 N n)) N v1 v2 v3 true v1 s
def f_X9_agree (N : Nat) (a1 : Int32) (a2 : Int32) (s : Mem) : Option (Bool × Mem) :=
  f_X9_agree_L2 N N a1 a2 0 s

def f_X9_cut_j47 (N : Nat) (k18 : Int32 → Int32 → Mem → Option (Int32 × Mem)) (v2 : Int32) (v3 : Int32) (s : Mem) : Option (Int32 × Mem) :=
  k18 v2 (v3 + 1) s
def f_X9_cut_L18 (N : Nat) : Nat → Int32 → Int32 → Mem → Option (Int32 × Mem)
  | 0, _, _, _ => none
  | n + 1, v2, v3, s =>
    if v2 ≤ v3 then some ((-3), s) else
    bnd (f_X9_agree N v3 v2 s) fun r1 s1 =>
    if r1 = true then (
      if v3 = 0 then some (v3, s1) else
      bnd (f_X9_agree N 0 v3 s1) fun r2 s2 =>
      if r2 = true then some (v3, s2) else
      f_X9_cut_j47 N (f_X9_cut_L18 N n) v2 v3 s2)
    else
    f_X9_cut_j47 N (f_X9_cut_L18 N n) v2 v3 s1
def f_X9_cut (N : Nat) (a1 : Int32) (s : Mem) : Option (Int32 × Mem) :=
  bnd (f_X9_isPerson N a1 s) fun r1 s1 =>
  if r1 = true then (
    bnd (f_X9_orderOf N a1 s1) fun r2 s2 =>
    f_X9_cut_L18 N N r2 0 s2)
  else
  some ((-1), s1)

def f_X9_rest_j68 (N : Nat) (v1 : Int32) (v2 : Int32) (s : Mem) : Option (Int32 × Mem) :=
  if (rI s 61 5) = 40 then some ((-2), s) else
  gin (2 * (rI s 61 5)) 80 (
    lt (wI s 65 (2 * (rI s 61 5)).toNatClampNeg v1) fun s1 =>
    gin ((2 * (rI s1 61 5)) + 1) 80 (
      lt (wI s1 65 ((2 * (rI s1 61 5)) + 1).toNatClampNeg v2) fun s2 =>
      lt (wI s2 61 5 ((rI s2 61 5) + 1)) fun s3 =>
      some ((rI s3 61 5), s3)))
def f_X9_rest_j62 (N : Nat) (k25 : Int32 → Int32 → Int32 → Mem → Option (Int32 × Mem)) (k68 : Int32 → Int32 → Mem → Option (Int32 × Mem)) (v1 : Int32) (v2 : Int32) (v3 : Int32) (s : Mem) : Option (Int32 × Mem) :=
  k25 v1 v2 (v3 + 1) s
def f_X9_rest_L25 (N : Nat) (k68 : Int32 → Int32 → Mem → Option (Int32 × Mem)) : Nat → Int32 → Int32 → Int32 → Mem → Option (Int32 × Mem)
  | 0, _, _, _, _ => none
  | n + 1, v1, v2, v3, s =>
    if (rI s 61 5) ≤ v3 then k68 v1 v2 s else
    gin (2 * v3) 80 (
      if (rI s 65 (2 * v3).toNatClampNeg) = v1 then (
        gin ((2 * v3) + 1) 80 (
          if (rI s 65 ((2 * v3) + 1).toNatClampNeg) = v2 then some ((-4), s) else
          f_X9_rest_j62 N (f_X9_rest_L25 N k68 n) k68 v1 v2 v3 s))
      else
      f_X9_rest_j62 N (f_X9_rest_L25 N k68 n) k68 v1 v2 v3 s)
def f_X9_rest (N : Nat) (a1 : Int32) (a2 : Int32) (s : Mem) : Option (Int32 × Mem) :=
  bnd (f_X9_isPaper N a1 s) fun r1 s1 =>
  if r1 = true then (
    bnd (f_X9_isPaper N a2 s1) fun r2 s2 =>
    if r2 = true then (
      if a1 = a2 then some ((-1), s2) else
      f_X9_rest_L25 N (f_X9_rest_j68 N) N a1 a2 0 s2)
    else
    some ((-1), s2))
  else
  some ((-1), s1)

def f_X9_under_j71 (N : Nat) (k34 : Int32 → Int32 → Int32 → Mem → Option (Int32 × Mem)) (v1 : Int32) (v3 : Int32) (p0 : Int32) (p1 : Int32) (s : Mem) : Option (Int32 × Mem) :=
  k34 v1 (p1 ||| p0) (v3 + 1) s
def f_X9_under_L34 (N : Nat) : Nat → Int32 → Int32 → Int32 → Mem → Option (Int32 × Mem)
  | 0, _, _, _, _ => none
  | n + 1, v1, v2, v3, s =>
    if (rI s 61 5) ≤ v3 then some (v2, s) else
    gin (2 * v3) 80 (
      if (rI s 65 (2 * v3).toNatClampNeg) = v1 then gin ((2 * v3) + 1) 80 (f_X9_under_j71 N (f_X9_under_L34 N n) v1 v3 ((1 : Int32) <<< ((rI s 65 ((2 * v3) + 1).toNatClampNeg) &&& 31)) v2 s) else
      f_X9_under_j71 N (f_X9_under_L34 N n) v1 v3 0 v2 s)
def f_X9_under_j31 (N : Nat) (v1 : Int32) (p0 : Int32) (s : Mem) : Option (Int32 × Mem) :=
  f_X9_under_L34 N N v1 p0 0 s
def f_X9_under (N : Nat) (a1 : Int32) (s : Mem) : Option (Int32 × Mem) :=
  gin ((6 * a1) + 5) 180 (
    if (rI s 63 ((6 * a1) + 5).toNatClampNeg) < 0 then f_X9_under_j31 N a1 0 s else
    gin ((6 * a1) + 5) 180 (f_X9_under_j31 N a1 ((1 : Int32) <<< ((rI s 63 ((6 * a1) + 5).toNatClampNeg) &&& 31)) s))

def f_X9_standing_j55 (N : Nat) (k4 : Int32 → Bool → Mem → Option (Int32 × Mem)) (k12 : Int32 → Bool → Int32 → Mem → Option (Int32 × Mem)) (v1 : Int32) (v2 : Bool) (v3 : Int32) (s : Mem) : Option (Int32 × Mem) :=
  k12 v1 v2 (v3 + 1) s
def f_X9_standing_j47 (N : Nat) (k4 : Int32 → Bool → Mem → Option (Int32 × Mem)) (k12 : Int32 → Bool → Int32 → Mem → Option (Int32 × Mem)) (v1 : Int32) (v3 : Int32) (s : Mem) : Option (Int32 × Mem) :=
  lt (v1 ||| ((1 : Int32) <<< (v3 &&& 31))) fun x1 =>
  f_X9_standing_j55 N k4 k12 x1 true v3 s
def f_X9_standing_L12 (N : Nat) (k4 : Int32 → Bool → Mem → Option (Int32 × Mem)) : Nat → Int32 → Bool → Int32 → Mem → Option (Int32 × Mem)
  | 0, _, _, _, _ => none
  | n + 1, v1, v2, v3, s =>
    if (rI s 61 2) ≤ v3 then k4 v1 v2 s else
    bnd (f_X9_under N v3 s) fun r1 s1 =>
    if ((v1 >>> (v3 &&& 31)) &&& 1) = 0 then (
      if r1 = 0 then f_X9_standing_j47 N k4 (f_X9_standing_L12 N k4 n) v1 v3 s1 else
      if (r1 &&& v1) = 0 then f_X9_standing_j55 N k4 (f_X9_standing_L12 N k4 n) v1 v2 v3 s1 else
      f_X9_standing_j47 N k4 (f_X9_standing_L12 N k4 n) v1 v3 s1)
    else
    f_X9_standing_j55 N k4 (f_X9_standing_L12 N k4 n) v1 v2 v3 s1
def f_X9_standing_L4 (N : Nat) : Nat → Int32 → Bool → Mem → Option (Int32 × Mem)
  | 0, _, _, _ => none
  | n + 1, v1, v2, s =>
    if v2 = true then f_X9_standing_L12 N (f_X9_standing_L4 N n) N v1 false 0 s else
    some (v1, s)
def f_X9_standing (N : Nat) (s : Mem) : Option (Int32 × Mem) :=
  f_X9_standing_L4 N N 0 true s

def f_X9_stands (N : Nat) (s : Mem) : Option (Int32 × Mem) :=
  bnd (f_X9_standing N s) fun r1 s1 =>
  some (r1, s1)

def f_X9_below_j67 (N : Nat) (k8 : Int32 → Bool → Mem → Option (Int32 × Mem)) (v2 : Int32) (p0 : Bool) (s : Mem) : Option (Int32 × Mem) :=
  k8 v2 p0 s
def f_X9_below_j56 (N : Nat) (k8 : Int32 → Bool → Mem → Option (Int32 × Mem)) (v2 : Int32) (v4 : Int32) (s : Mem) : Option (Int32 × Mem) :=
  if v2 = v4 then f_X9_below_j67 N k8 v2 false s else
  f_X9_below_j67 N k8 v2 true s
def f_X9_below_j48 (N : Nat) (k18 : Int32 → Int32 → Int32 → Mem → Option (Int32 × Mem)) (k56 : Int32 → Int32 → Mem → Option (Int32 × Mem)) (v4 : Int32) (v5 : Int32) (p0 : Int32) (p1 : Int32) (s : Mem) : Option (Int32 × Mem) :=
  k18 (p1 ||| p0) v4 (v5 + 1) s
def f_X9_below_L18 (N : Nat) (k56 : Int32 → Int32 → Mem → Option (Int32 × Mem)) : Nat → Int32 → Int32 → Int32 → Mem → Option (Int32 × Mem)
  | 0, _, _, _, _ => none
  | n + 1, v2, v4, v5, s =>
    if (rI s 61 2) ≤ v5 then k56 v2 v4 s else
    if ((v2 >>> (v5 &&& 31)) &&& 1) = 1 then (
      bnd (f_X9_under N v5 s) fun r1 s1 =>
      f_X9_below_j48 N (f_X9_below_L18 N k56 n) k56 v4 v5 r1 v2 s1)
    else
    f_X9_below_j48 N (f_X9_below_L18 N k56 n) k56 v4 v5 0 v2 s
def f_X9_below_L8 (N : Nat) : Nat → Int32 → Bool → Mem → Option (Int32 × Mem)
  | 0, _, _, _ => none
  | n + 1, v2, v3, s =>
    if v3 = true then f_X9_below_L18 N (f_X9_below_j56 N (f_X9_below_L8 N n)) N v2 v2 0 s else
    some (v2, s)
def f_X9_below (N : Nat) (a1 : Int32) (s : Mem) : Option (Int32 × Mem) :=
  bnd (f_X9_under N a1 s) fun r1 s1 =>
  f_X9_below_L8 N N r1 true s1

def f_X9_round (N : Nat) (a1 : Int32) (s : Mem) : Option (Int32 × Mem) :=
  bnd (f_X9_isPaper N a1 s) fun r1 s1 =>
  if r1 = true then (
    bnd (f_X9_below N a1 s1) fun r2 s2 =>
    some (((r2 >>> (a1 &&& 31)) &&& 1), s2))
  else
  some ((-1), s1)

def f_X9_roots_j62 (N : Nat) (k25 : Int32 → Int32 → Int32 → Mem → Option (Int32 × Mem)) (v2 : Int32) (v4 : Int32) (p0 : Int32) (p1 : Int32) (s : Mem) : Option (Int32 × Mem) :=
  k25 v2 (p1 ||| p0) (v4 + 1) s
def f_X9_roots_j61 (N : Nat) (k25 : Int32 → Int32 → Int32 → Mem → Option (Int32 × Mem)) (v2 : Int32) (v4 : Int32) (p0 : Int32) (s : Mem) : Option (Int32 × Mem) :=
  f_X9_roots_j62 N k25 v2 v4 0 p0 s
def f_X9_roots_L25 (N : Nat) : Nat → Int32 → Int32 → Int32 → Mem → Option (Int32 × Mem)
  | 0, _, _, _, _ => none
  | n + 1, v2, v3, v4, s =>
    if (rI s 61 2) ≤ v4 then some (v3, s) else
    if ((v2 >>> (v4 &&& 31)) &&& 1) = 1 then (
      bnd (f_X9_under N v4 s) fun r1 s1 =>
      if r1 = 0 then f_X9_roots_j62 N (f_X9_roots_L25 N n) v2 v4 ((1 : Int32) <<< (v4 &&& 31)) v3 s1 else
      f_X9_roots_j61 N (f_X9_roots_L25 N n) v2 v4 v3 s1)
    else
    f_X9_roots_j61 N (f_X9_roots_L25 N n) v2 v4 v3 s
def f_X9_roots (N : Nat) (a1 : Int32) (s : Mem) : Option (Int32 × Mem) :=
  bnd (f_X9_isPaper N a1 s) fun r1 s1 =>
  if r1 = true then (
    bnd (f_X9_below N a1 s1) fun r2 s2 =>
    lt (r2 ||| ((1 : Int32) <<< (a1 &&& 31))) fun x3 =>
    f_X9_roots_L25 N N x3 0 0 s2)
  else
  some ((-1), s1)

def f_X9_feed_L30 (N : Nat) : Nat → Int64 → Int32 → Int32 → Mem → Option (Int32 × Mem)
  | 0, _, _, _, _ => none
  | n + 1, v1, v3, v4, s =>
    if v3 ≤ v4 then some ((rI s 61 17), s) else
    gin (rI s 61 17) 200 (
      lt (wI s 72 (rI s 61 17).toNatClampNeg ((((v1.toUInt64 >>> ((8 * v4).toInt64.toUInt64 &&& Int64.toUInt64 63)).toInt64) &&& 255).toInt32)) fun s1 =>
      lt (wI s1 61 17 ((rI s1 61 17) + 1)) fun s2 =>
      f_X9_feed_L30 N n v1 v3 (v4 + 1) s2)
def f_X9_feed (N : Nat) (a1 : Int64) (a3 : Int32) (s : Mem) : Option (Int32 × Mem) :=
  bnd (f_X9_in N a3 1 8 s) fun r1 s1 =>
  if r1 = true then (
    if ((rI s1 61 17) + a3) ≤ 200 then f_X9_feed_L30 N N a1 a3 0 s1 else
    some ((-2), s1))
  else
  some ((-1), s1)

def f_X9_isLetter (N : Nat) (a0 : Int32) (s : Mem) : Option (Bool × Mem) :=
  if a0 < 97 then some (false, s) else
  if 122 < a0 then some (false, s) else
  some (true, s)

def f_X9_isDigit (N : Nat) (a0 : Int32) (s : Mem) : Option (Bool × Mem) :=
  if a0 < 48 then some (false, s) else
  if 57 < a0 then some (false, s) else
  some (true, s)

def f_X9_advance_j239 (N : Nat) (k181 : Int32 → Mem → Option (Unit × Mem)) (v1 : Int32) (p0 : Int64) (s : Mem) : Option (Unit × Mem) :=
  lt (wL s 61 21 p0) fun s1 =>
  k181 (v1 + 1) s1
def f_X9_advance_L181 (N : Nat) : Nat → Int32 → Mem → Option (Unit × Mem)
  | 0, _, _ => none
  | n + 1, v1, s =>
    if (rI s 61 17) ≤ v1 then (
      lt (wI s 61 20 v1) fun s1 =>
      some ((), s1))
    else
    gin v1 200 (
      bnd (f_X9_isDigit N (rI s 72 v1.toNatClampNeg) s) fun r2 s2 =>
      if r2 = true then (
        if 3 ≤ (v1 - (rI s2 61 19)) then f_X9_advance_j239 N (f_X9_advance_L181 N n) v1 (rL s2 61 21) s2 else
        gin v1 200 (f_X9_advance_j239 N (f_X9_advance_L181 N n) v1 (((10 * (rL s2 61 21)) + ((rI s2 72 v1.toNatClampNeg).toInt64)) - 48) s2))
      else
      lt (wI s2 61 20 v1) fun s3 =>
      some ((), s3))
def f_X9_advance_j158 (N : Nat) (v1 : Int32) (p0 : Int64) (s : Mem) : Option (Unit × Mem) :=
  lt (wL s 61 21 p0) fun s1 =>
  lt (wI s1 61 20 v1) fun s2 =>
  some ((), s2)
def f_X9_advance_j138 (N : Nat) (v1 : Int32) (s : Mem) : Option (Unit × Mem) :=
  if (v1 - (rI s 61 19)) ≤ 8 then f_X9_advance_j158 N v1 (rL s 61 21) s else
  f_X9_advance_j158 N v1 0 s
def f_X9_advance_j129 (N : Nat) (k73 : Int32 → Mem → Option (Unit × Mem)) (k138 : Int32 → Mem → Option (Unit × Mem)) (v1 : Int32) (p0 : Int64) (s : Mem) : Option (Unit × Mem) :=
  lt (wL s 61 21 p0) fun s1 =>
  k73 (v1 + 1) s1
def f_X9_advance_L73 (N : Nat) (k138 : Int32 → Mem → Option (Unit × Mem)) : Nat → Int32 → Mem → Option (Unit × Mem)
  | 0, _, _ => none
  | n + 1, v1, s =>
    if (rI s 61 17) ≤ v1 then k138 v1 s else
    gin v1 200 (
      bnd (f_X9_isLetter N (rI s 72 v1.toNatClampNeg) s) fun r1 s1 =>
      if r1 = true then (
        if 8 ≤ (v1 - (rI s1 61 19)) then f_X9_advance_j129 N (f_X9_advance_L73 N k138 n) k138 v1 0 s1 else
        gin v1 200 (f_X9_advance_j129 N (f_X9_advance_L73 N k138 n) k138 v1 (((27 * (rL s1 61 21)) + ((rI s1 72 v1.toNatClampNeg).toInt64)) - 96) s1))
      else
      k138 v1 s1)
def f_X9_advance_j30 (N : Nat) (v1 : Int32) (s : Mem) : Option (Unit × Mem) :=
  lt (wI s 61 19 v1) fun s1 =>
  lt (wL s1 61 21 0) fun s2 =>
  if v1 = (rI s2 61 17) then (
    lt (wI s2 61 18 0) fun s10 =>
    lt (wI s10 61 20 v1) fun s11 =>
    some ((), s11))
  else
  gin v1 200 (
    bnd (f_X9_isLetter N (rI s2 72 v1.toNatClampNeg) s2) fun r3 s3 =>
    if r3 = true then (
      lt (wI s3 61 18 1) fun s9 =>
      f_X9_advance_L73 N (f_X9_advance_j138 N) N v1 s9)
    else
    gin v1 200 (
      bnd (f_X9_isDigit N (rI s3 72 v1.toNatClampNeg) s3) fun r4 s4 =>
      if r4 = true then (
        lt (wI s4 61 18 2) fun s8 =>
        f_X9_advance_L181 N N v1 s8)
      else
      lt (wI s4 61 18 3) fun s5 =>
      gin v1 200 (
        lt (wL s5 61 21 ((rI s5 72 v1.toNatClampNeg).toInt64)) fun s6 =>
        lt (wI s6 61 20 (v1 + 1)) fun s7 =>
        some ((), s7))))
def f_X9_advance_L5 (N : Nat) (k30 : Int32 → Mem → Option (Unit × Mem)) : Nat → Int32 → Mem → Option (Unit × Mem)
  | 0, _, _ => none
  | n + 1, v1, s =>
    if (rI s 61 17) ≤ v1 then k30 v1 s else
    gin v1 200 (
      if (rI s 72 v1.toNatClampNeg) = 32 then f_X9_advance_L5 N k30 n (v1 + 1) s else
      k30 v1 s)
def f_X9_advance (N : Nat) (s : Mem) : Option (Unit × Mem) :=
  f_X9_advance_L5 N (f_X9_advance_j30 N) N (rI s 61 20) s

def f_X9_isGood (N : Nat) (s : Mem) : Option (Bool × Mem) :=
  if 0 ≤ (rI s 61 22) then some (false, s) else
  some (true, s)

def f_X9_faulty (N : Nat) (s : Mem) : Option (Unit × Mem) :=
  if 0 ≤ (rI s 61 22) then (
    lt (wI s 61 22 (rI s 61 22)) fun s1 =>
    some ((), s1))
  else
  lt (wI s 61 22 (rI s 61 19)) fun s2 =>
  some ((), s2)

def f_X9_isWord (N : Nat) (a1 : Int64) (s : Mem) : Option (Bool × Mem) :=
  if (rI s 61 18) = 1 then (
    if (rL s 61 21) = a1 then some (true, s) else
    some (false, s))
  else
  some (false, s)

def f_X9_isMark (N : Nat) (a1 : Int32) (s : Mem) : Option (Bool × Mem) :=
  if (rI s 61 18) = 3 then (
    if (rL s 61 21) = a1.toInt64 then some (true, s) else
    some (false, s))
  else
  some (false, s)

def f_X9_want (N : Nat) (a1 : Bool) (s : Mem) : Option (Unit × Mem) :=
  bnd (f_X9_isGood N s) fun r1 s1 =>
  if r1 = true then (
    if a1 = true then (
      bnd (f_X9_advance N s1) fun _ s3 =>
      some ((), s3))
    else
    bnd (f_X9_faulty N s1) fun _ s2 =>
    some ((), s2))
  else
  some ((), s1)

def f_X9_wantNumber_j33 (N : Nat) (v1 : Int32) (p0 : Bool) (s : Mem) : Option (Int32 × Mem) :=
  bnd (f_X9_want N p0 s) fun _ s1 =>
  some (v1, s1)
def f_X9_wantNumber_j32 (N : Nat) (v1 : Int32) (s : Mem) : Option (Int32 × Mem) :=
  f_X9_wantNumber_j33 N v1 false s
def f_X9_wantNumber (N : Nat) (s : Mem) : Option (Int32 × Mem) :=
  if (rI s 61 18) = 2 then (
    if 3 < ((rI s 61 20) - (rI s 61 19)) then f_X9_wantNumber_j32 N ((rL s 61 21).toInt32) s else
    f_X9_wantNumber_j33 N ((rL s 61 21).toInt32) true s)
  else
  f_X9_wantNumber_j32 N ((rL s 61 21).toInt32) s

def f_X9_emit (N : Nat) (a1 : Int32) (s : Mem) : Option (Unit × Mem) :=
  gin (rI s 61 27) 210 (
    lt (wI s 73 (rI s 61 27).toNatClampNeg a1) fun s1 =>
    lt (wI s1 61 27 ((rI s1 61 27) + 1)) fun s2 =>
    some ((), s2))

def f_X9_settle_L0 (N : Nat) : Nat → Int32 → Mem → Option (Unit × Mem)
  | 0, _, _ => none
  | n + 1, v1, s =>
    if (rI s 61 28) ≤ 0 then some ((), s) else
    gin ((rI s 61 28) - 1) 210 (
      if (rI s 74 ((rI s 61 28) - 1).toNatClampNeg) = 10 then some ((), s) else
      gin ((rI s 61 28) - 1) 210 (
        if v1 < (rI s 74 ((rI s 61 28) - 1).toNatClampNeg) then some ((), s) else
        lt (wI s 61 28 ((rI s 61 28) - 1)) fun s1 =>
        gin (rI s1 61 28) 210 (
          bnd (f_X9_emit N (rI s1 74 (rI s1 61 28).toNatClampNeg) s1) fun _ s2 =>
          f_X9_settle_L0 N n v1 s2)))
def f_X9_settle (N : Nat) (a1 : Int32) (s : Mem) : Option (Unit × Mem) :=
  f_X9_settle_L0 N N a1 s

def f_X9_hold (N : Nat) (a1 : Int32) (s : Mem) : Option (Unit × Mem) :=
  gin (rI s 61 28) 210 (
    lt (wI s 74 (rI s 61 28).toNatClampNeg a1) fun s1 =>
    lt (wI s1 61 28 ((rI s1 61 28) + 1)) fun s2 =>
    bnd (f_X9_advance N s2) fun _ s3 =>
    some ((), s3))

def f_X9_wordHere (N : Nat) (s : Mem) : Option (Int32 × Mem) :=
  bnd (f_X9_isWord N 230433031 s) fun r1 s1 =>
  if r1 = true then some (100, s1) else
  bnd (f_X9_isWord N 283288069 s1) fun r2 s2 =>
  if r2 = true then some (101, s2) else
  bnd (f_X9_isWord N 923 s2) fun r3 s3 =>
  if r3 = true then some (102, s3) else
  bnd (f_X9_isWord N 377771 s3) fun r4 s4 =>
  if r4 = true then some (103, s4) else
  bnd (f_X9_isWord N 4562600 s4) fun r5 s5 =>
  if r5 = true then some (104, s5) else
  bnd (f_X9_isWord N 12588757 s5) fun r6 s6 =>
  if r6 = true then some (105, s6) else
  some (0, s6)

def f_X9_wantValue (N : Nat) (s : Mem) : Option (Unit × Mem) :=
  bnd (f_X9_wordHere N s) fun r1 s1 =>
  if r1 ≤ 0 then (
    bnd (f_X9_isWord N 10256063 s1) fun r2 s2 =>
    if r2 = true then (
      bnd (f_X9_advance N s2) fun _ s5 =>
      bnd (f_X9_wantNumber N s5) fun r6 s6 =>
      bnd (f_X9_emit N (1000 + r6) s6) fun _ s7 =>
      some ((), s7))
    else
    bnd (f_X9_wantNumber N s2) fun r3 s3 =>
    bnd (f_X9_emit N (3000 + r3) s3) fun _ s4 =>
    some ((), s4))
  else
  bnd (f_X9_emit N r1 s1) fun _ s8 =>
  bnd (f_X9_advance N s8) fun _ s9 =>
  some ((), s9)

def f_X9_wantAsk_j58 (N : Nat) (v1 : Int32) (p0 : Bool) (s : Mem) : Option (Unit × Mem) :=
  bnd (f_X9_want N p0 s) fun _ s1 =>
  bnd (f_X9_isGood N s1) fun r2 s2 =>
  if r2 = true then (
    bnd (f_X9_wantValue N s2) fun _ s3 =>
    bnd (f_X9_emit N v1 s3) fun _ s4 =>
    some ((), s4))
  else
  some ((), s2)
def f_X9_wantAsk_j47 (N : Nat) (p0 : Int32) (s : Mem) : Option (Unit × Mem) :=
  if p0 ≤ 0 then f_X9_wantAsk_j58 N p0 false s else
  f_X9_wantAsk_j58 N p0 true s
def f_X9_wantAsk (N : Nat) (s : Mem) : Option (Unit × Mem) :=
  bnd (f_X9_wantValue N s) fun _ s1 =>
  bnd (f_X9_isMark N 60 s1) fun r2 s2 =>
  if r2 = true then f_X9_wantAsk_j47 N 15 s2 else
  bnd (f_X9_isMark N 61 s2) fun r3 s3 =>
  if r3 = true then f_X9_wantAsk_j47 N 16 s3 else
  bnd (f_X9_isMark N 62 s3) fun r4 s4 =>
  if r4 = true then f_X9_wantAsk_j47 N 17 s4 else
  f_X9_wantAsk_j47 N 0 s4

def f_X9_wantCond_j196 (N : Nat) (s : Mem) : Option (Unit × Mem) :=
  bnd (f_X9_settle N 9 s) fun _ s1 =>
  some ((), s1)
def f_X9_wantCond_j130 (N : Nat) (k11 : Int32 → Bool → Bool → Mem → Option (Unit × Mem)) (k196 : Mem → Option (Unit × Mem)) (v1 : Int32) (v3 : Bool) (p0 : Int32) (s : Mem) : Option (Unit × Mem) :=
  bnd (f_X9_settle N p0 s) fun _ s1 =>
  bnd (f_X9_hold N p0 s1) fun _ s2 =>
  k11 v1 true v3 s2
def f_X9_wantCond_j113 (N : Nat) (k11 : Int32 → Bool → Bool → Mem → Option (Unit × Mem)) (k196 : Mem → Option (Unit × Mem)) (v1 : Int32) (v3 : Bool) (s : Mem) : Option (Unit × Mem) :=
  bnd (f_X9_isWord N 1111 s) fun r1 s1 =>
  if r1 = true then f_X9_wantCond_j130 N k11 k196 v1 v3 8 s1 else
  f_X9_wantCond_j130 N k11 k196 v1 v3 9 s1
def f_X9_wantCond_L11 (N : Nat) (k196 : Mem → Option (Unit × Mem)) : Nat → Int32 → Bool → Bool → Mem → Option (Unit × Mem)
  | 0, _, _, _, _ => none
  | n + 1, v1, v2, v3, s =>
    if v3 = true then (
      bnd (f_X9_isGood N s) fun r1 s1 =>
      if r1 = true then (
        if v2 = true then (
          bnd (f_X9_isWord N 10631 s1) fun r9 s9 =>
          if r9 = true then (
            bnd (f_X9_hold N 7 s9) fun _ s15 =>
            f_X9_wantCond_L11 N k196 n v1 v2 v3 s15)
          else
          bnd (f_X9_isMark N 40 s9) fun r10 s10 =>
          if r10 = true then (
            if v1 = 3 then (
              bnd (f_X9_faulty N s10) fun _ s14 =>
              f_X9_wantCond_L11 N k196 n v1 v2 v3 s14)
            else
            bnd (f_X9_hold N 10 s10) fun _ s13 =>
            f_X9_wantCond_L11 N k196 n (v1 + 1) v2 v3 s13)
          else
          bnd (f_X9_wantAsk N s10) fun _ s11 =>
          bnd (f_X9_settle N 7 s11) fun _ s12 =>
          f_X9_wantCond_L11 N k196 n v1 false v3 s12)
        else
        bnd (f_X9_isWord N 1111 s1) fun r2 s2 =>
        if r2 = true then f_X9_wantCond_j113 N (f_X9_wantCond_L11 N k196 n) k196 v1 v3 s2 else
        bnd (f_X9_isWord N 423 s2) fun r3 s3 =>
        if r3 = true then f_X9_wantCond_j113 N (f_X9_wantCond_L11 N k196 n) k196 v1 v3 s3 else
        if v1 ≤ 0 then f_X9_wantCond_L11 N k196 n v1 v2 false s3 else
        bnd (f_X9_settle N 9 s3) fun _ s4 =>
        lt (wI s4 61 28 ((rI s4 61 28) - 1)) fun s5 =>
        bnd (f_X9_isMark N 41 s5) fun r6 s6 =>
        bnd (f_X9_want N r6 s6) fun _ s7 =>
        bnd (f_X9_settle N 7 s7) fun _ s8 =>
        f_X9_wantCond_L11 N k196 n (v1 + (-1)) v2 v3 s8)
      else
      k196 s1)
    else
    k196 s
def f_X9_wantCond (N : Nat) (s : Mem) : Option (Unit × Mem) :=
  lt (wI s 61 28 0) fun s1 =>
  f_X9_wantCond_L11 N (f_X9_wantCond_j196 N) N 0 true true s1

def f_X9_read_L195 (N : Nat) : Nat → Int32 → Int32 → Mem → Option (Int32 × Mem)
  | 0, _, _, _ => none
  | n + 1, v1, v2, s =>
    if (rI s 61 27) ≤ v2 then some (v1, s) else
    gin v2 210 (
      gin v2 210 (
        lt (wI s 70 v2.toNatClampNeg (rI s 73 v2.toNatClampNeg)) fun s1 =>
        f_X9_read_L195 N n v1 (v2 + 1) s1))
def f_X9_read_j193 (N : Nat) (v1 : Int32) (s : Mem) : Option (Int32 × Mem) :=
  f_X9_read_L195 N N v1 0 s
def f_X9_read_L158 (N : Nat) (k193 : Int32 → Mem → Option (Int32 × Mem)) : Nat → Int32 → Int32 → Mem → Option (Int32 × Mem)
  | 0, _, _, _ => none
  | n + 1, v1, v2, s =>
    if v1 ≤ v2 then k193 v1 s else
    gin v2 6 (
      gin v2 6 (
        lt (wI s 68 v2.toNatClampNeg (rI s 75 v2.toNatClampNeg)) fun s1 =>
        gin v2 6 (
          gin v2 6 (
            lt (wI s1 69 v2.toNatClampNeg (rI s1 76 v2.toNatClampNeg)) fun s2 =>
            f_X9_read_L158 N k193 n v1 (v2 + 1) s2))))
def f_X9_read_j131 (N : Nat) (v1 : Int32) (s : Mem) : Option (Int32 × Mem) :=
  lt (wI s 61 17 0) fun s1 =>
  bnd (f_X9_isGood N s1) fun r2 s2 =>
  if r2 = true then (
    lt (wI s2 61 11 v1) fun s3 =>
    f_X9_read_L158 N (f_X9_read_j193 N) N v1 0 s3)
  else
  some (((-100) - (rI s2 61 22)), s2)
def f_X9_read_j124 (N : Nat) (k21 : Int32 → Mem → Option (Int32 × Mem)) (k131 : Int32 → Mem → Option (Int32 × Mem)) (v1 : Int32) (p0 : Bool) (p1 : Int32) (s : Mem) : Option (Int32 × Mem) :=
  gin p1 6 (
    lt (wI s 76 p1.toNatClampNeg (bI p0)) fun s1 =>
    k21 (v1 + 1) s1)
def f_X9_read_j93 (N : Nat) (k21 : Int32 → Mem → Option (Int32 × Mem)) (k131 : Int32 → Mem → Option (Int32 × Mem)) (v1 : Int32) (v2 : Bool) (s : Mem) : Option (Int32 × Mem) :=
  bnd (f_X9_isGood N s) fun r1 s1 =>
  if r1 = true then (
    gin v1 6 (
      lt (wI s1 75 v1.toNatClampNeg (rI s1 61 27)) fun s2 =>
      if v2 = true then f_X9_read_j124 N k21 k131 v1 true v1 s2 else
      f_X9_read_j124 N k21 k131 v1 false v1 s2))
  else
  k21 v1 s1
def f_X9_read_j69 (N : Nat) (k21 : Int32 → Mem → Option (Int32 × Mem)) (k131 : Int32 → Mem → Option (Int32 × Mem)) (v1 : Int32) (v2 : Bool) (p0 : Bool) (s : Mem) : Option (Int32 × Mem) :=
  bnd (f_X9_want N p0 s) fun _ s1 =>
  bnd (f_X9_isGood N s1) fun r2 s2 =>
  if r2 = true then (
    bnd (f_X9_wantCond N s2) fun _ s3 =>
    bnd (f_X9_isMark N 59 s3) fun r4 s4 =>
    bnd (f_X9_want N r4 s4) fun _ s5 =>
    f_X9_read_j93 N k21 k131 v1 v2 s5)
  else
  f_X9_read_j93 N k21 k131 v1 v2 s2
def f_X9_read_j68 (N : Nat) (k21 : Int32 → Mem → Option (Int32 × Mem)) (k131 : Int32 → Mem → Option (Int32 × Mem)) (v1 : Int32) (v2 : Bool) (s : Mem) : Option (Int32 × Mem) :=
  f_X9_read_j69 N k21 k131 v1 v2 false s
def f_X9_read_j58 (N : Nat) (k21 : Int32 → Mem → Option (Int32 × Mem)) (k131 : Int32 → Mem → Option (Int32 × Mem)) (v1 : Int32) (v2 : Bool) (s : Mem) : Option (Int32 × Mem) :=
  if 6 ≤ v1 then f_X9_read_j68 N k21 k131 v1 v2 s else
  f_X9_read_j69 N k21 k131 v1 v2 true s
def f_X9_read_L21 (N : Nat) (k131 : Int32 → Mem → Option (Int32 × Mem)) : Nat → Int32 → Mem → Option (Int32 × Mem)
  | 0, _, _ => none
  | n + 1, v1, s =>
    if (rI s 61 18) = 0 then k131 v1 s else
    bnd (f_X9_isGood N s) fun r1 s1 =>
    if r1 = true then (
      bnd (f_X9_isWord N 394691 s1) fun r2 s2 =>
      if r2 = true then f_X9_read_j58 N (f_X9_read_L21 N k131 n) k131 v1 r2 s2 else
      bnd (f_X9_isWord N 409469 s2) fun r3 s3 =>
      if r3 = true then f_X9_read_j58 N (f_X9_read_L21 N k131 n) k131 v1 r2 s3 else
      f_X9_read_j68 N (f_X9_read_L21 N k131 n) k131 v1 r2 s3)
    else
    k131 v1 s1
def f_X9_read (N : Nat) (s : Mem) : Option (Int32 × Mem) :=
  lt (wI s 61 22 (-1)) fun s1 =>
  lt (wI s1 61 20 0) fun s2 =>
  lt (wI s2 61 27 0) fun s3 =>
  bnd (f_X9_advance N s3) fun _ s4 =>
  f_X9_read_L21 N (f_X9_read_j131 N) N 0 s4

def f_X9_wrongOf_j48 (N : Nat) (k5 : Int32 → Int32 → Int32 → Int32 → Mem → Option (Int32 × Mem)) (v1 : Int32) (v2 : Int32) (v4 : Int32) (p0 : Bool) (p1 : Int32) (s : Mem) : Option (Int32 × Mem) :=
  k5 v1 v2 (p1 + (bI p0)) (v4 + 1) s
def f_X9_wrongOf_j47 (N : Nat) (k5 : Int32 → Int32 → Int32 → Int32 → Mem → Option (Int32 × Mem)) (v1 : Int32) (v2 : Int32) (v4 : Int32) (p0 : Int32) (s : Mem) : Option (Int32 × Mem) :=
  f_X9_wrongOf_j48 N k5 v1 v2 v4 false p0 s
def f_X9_wrongOf_L5 (N : Nat) : Nat → Int32 → Int32 → Int32 → Int32 → Mem → Option (Int32 × Mem)
  | 0, _, _, _, _, _ => none
  | n + 1, v1, v2, v3, v4, s =>
    if (rI s 61 2) ≤ v4 then some (v3, s) else
    gin (6 * v4) 180 (
      if (rI s 63 (6 * v4).toNatClampNeg) = v1 then (
        if v2 < 0 then f_X9_wrongOf_j47 N (f_X9_wrongOf_L5 N n) v1 v2 v4 v3 s else
        bnd (f_X9_spans N v4 v2 s) fun r1 s1 =>
        if r1 = true then f_X9_wrongOf_j47 N (f_X9_wrongOf_L5 N n) v1 v2 v4 v3 s1 else
        f_X9_wrongOf_j48 N (f_X9_wrongOf_L5 N n) v1 v2 v4 true v3 s1)
      else
      f_X9_wrongOf_j47 N (f_X9_wrongOf_L5 N n) v1 v2 v4 v3 s)
def f_X9_wrongOf (N : Nat) (a1 : Int32) (a2 : Int32) (s : Mem) : Option (Int32 × Mem) :=
  f_X9_wrongOf_L5 N N a1 a2 0 0 s

def f_X9_standingOf_j44 (N : Nat) (k10 : Int32 → Int32 → Int32 → Int32 → Mem → Option (Int32 × Mem)) (v1 : Int32) (v2 : Int32) (v4 : Int32) (p0 : Int32) (p1 : Int32) (s : Mem) : Option (Int32 × Mem) :=
  k10 v1 v2 (p1 + p0) (v4 + 1) s
def f_X9_standingOf_L10 (N : Nat) : Nat → Int32 → Int32 → Int32 → Int32 → Mem → Option (Int32 × Mem)
  | 0, _, _, _, _, _ => none
  | n + 1, v1, v2, v3, v4, s =>
    if (rI s 61 2) ≤ v4 then some (v3, s) else
    gin (6 * v4) 180 (
      if (rI s 63 (6 * v4).toNatClampNeg) = v1 then f_X9_standingOf_j44 N (f_X9_standingOf_L10 N n) v1 v2 v4 ((v2 >>> (v4 &&& 31)) &&& 1) v3 s else
      f_X9_standingOf_j44 N (f_X9_standingOf_L10 N n) v1 v2 v4 0 v3 s)
def f_X9_standingOf (N : Nat) (a1 : Int32) (s : Mem) : Option (Int32 × Mem) :=
  bnd (f_X9_standing N s) fun r1 s1 =>
  f_X9_standingOf_L10 N N a1 r1 0 0 s1

def f_X9_hundredths (N : Nat) (a1 : Int32) (a2 : Int32) (s : Mem) : Option (Int32 × Mem) :=
  bnd (f_X9_allOf N a1 s) fun r1 s1 =>
  if r1 = 0 then some (0, s1) else
  bnd (f_X9_partOf N a1 a2 s1) fun r2 s2 =>
  gnzL r1 (some (((100 * r2) / r1).toInt32, s2))

def f_X9_valueOf_j52 (N : Nat) (v1 : Int32) (v2 : Int32) (p0 : Int32) (s : Mem) : Option (Int32 × Mem) :=
  if v1 = 100 then (
    bnd (f_X9_papersOf N v2 s) fun r1 s1 =>
    some (r1, s1))
  else
  if v1 = 101 then (
    bnd (f_X9_standingOf N v2 s) fun r2 s2 =>
    some (r2, s2))
  else
  if v1 = 102 then (
    if 0 ≤ p0 then (
      bnd (f_X9_seenOf N v2 s) fun r3 s3 =>
      some ((r3 - p0), s3))
    else
    some (0, s))
  else
  if v1 = 103 then (
    bnd (f_X9_seenOf N v2 s) fun r4 s4 =>
    some (r4, s4))
  else
  if v1 = 104 then gin (4 * v2) 40 (some ((rI s 62 (4 * v2).toNatClampNeg), s)) else
  bnd (f_X9_wrongOf N v2 p0 s) fun r5 s5 =>
  some (r5, s5)
def f_X9_valueOf_j43 (N : Nat) (v1 : Int32) (v2 : Int32) (s : Mem) : Option (Int32 × Mem) :=
  bnd (f_X9_bestOf N v2 s) fun r1 s1 =>
  f_X9_valueOf_j52 N v1 v2 r1 s1
def f_X9_valueOf (N : Nat) (a1 : Int32) (a2 : Int32) (s : Mem) : Option (Int32 × Mem) :=
  if a1 < 3000 then (
    if a1 < 1000 then (
      if a1 = 102 then f_X9_valueOf_j43 N a1 a2 s else
      if a1 = 105 then f_X9_valueOf_j43 N a1 a2 s else
      f_X9_valueOf_j52 N a1 a2 0 s)
    else
    bnd (f_X9_hundredths N a2 (a1 - 1000) s) fun r1 s1 =>
    some (r1, s1))
  else
  some ((a1 - 3000), s)

def f_X9_joined (N : Nat) (a0 : Int32) (a1 : Int32) (a2 : Int32) (s : Mem) : Option (Int32 × Mem) :=
  if a0 = 8 then some ((a1 &&& a2), s) else
  if a0 = 9 then some ((a1 ||| a2), s) else
  if a0 = 10 then (
    if a1 ≤ a2 then some (0, s) else
    some (1, s))
  else
  if a0 = 11 then (
    if a1 ≤ a2 then some (0, s) else
    some (1, s))
  else
  if a0 = 12 then (
    if a1 ≤ a2 then some (0, s) else
    some (1, s))
  else
  if a0 = 13 then (
    if a1 ≤ a2 then some (0, s) else
    some (1, s))
  else
  if a0 = 14 then (
    if a1 ≤ a2 then some (0, s) else
    some (1, s))
  else
  if a0 = 15 then (
    if a2 ≤ a1 then some (0, s) else
    some (1, s))
  else
  if a0 = 16 then (
    if a1 = a2 then some (1, s) else
    some (0, s))
  else
  if a1 ≤ a2 then some (0, s) else
  some (1, s)

def f_X9_holds_j149 (N : Nat) (s : Mem) : Option (Bool × Mem) :=
  gin 0 210 (
    if (rI s 77 (0 : Int32).toNatClampNeg) = 1 then some (true, s) else
    some (false, s))
def f_X9_holds_j143 (N : Nat) (k20 : Int32 → Int32 → Int32 → Int32 → Mem → Option (Bool × Mem)) (k149 : Mem → Option (Bool × Mem)) (v1 : Int32) (v2 : Int32) (v3 : Int32) (v4 : Int32) (s : Mem) : Option (Bool × Mem) :=
  k20 v1 v2 v3 (v4 + 1) s
def f_X9_holds_j94 (N : Nat) (k20 : Int32 → Int32 → Int32 → Int32 → Mem → Option (Bool × Mem)) (k149 : Mem → Option (Bool × Mem)) (v1 : Int32) (v2 : Int32) (v3 : Int32) (v4 : Int32) (v5 : Int32) (s : Mem) : Option (Bool × Mem) :=
  gin ((v3 + (-1)) - 1) 210 (
    gin (v3 + (-1)) 210 (
      bnd (f_X9_joined N v5 (rI s 77 ((v3 + (-1)) - 1).toNatClampNeg) (rI s 77 (v3 + (-1)).toNatClampNeg) s) fun r1 s1 =>
      gin ((v3 + (-1)) - 1) 210 (
        lt (wI s1 77 ((v3 + (-1)) - 1).toNatClampNeg r1) fun s2 =>
        f_X9_holds_j143 N k20 k149 v1 v2 (v3 + (-1)) v4 s2)))
def f_X9_holds_L20 (N : Nat) (k149 : Mem → Option (Bool × Mem)) : Nat → Int32 → Int32 → Int32 → Int32 → Mem → Option (Bool × Mem)
  | 0, _, _, _, _, _ => none
  | n + 1, v1, v2, v3, v4, s =>
    gin v1 6 (
      if (rI s 68 v1.toNatClampNeg) ≤ v4 then k149 s else
      gin v4 210 (
        if (rI s 70 v4.toNatClampNeg) = 7 then (
          gin (v3 - 1) 210 (
            gin (v3 - 1) 210 (
              lt (wI s 77 (v3 - 1).toNatClampNeg (1 - (rI s 77 (v3 - 1).toNatClampNeg))) fun s4 =>
              f_X9_holds_j143 N (f_X9_holds_L20 N k149 n) k149 v1 v2 v3 v4 s4)))
        else
        if (rI s 70 v4.toNatClampNeg) = 8 then f_X9_holds_j94 N (f_X9_holds_L20 N k149 n) k149 v1 v2 v3 v4 (rI s 70 v4.toNatClampNeg) s else
        if (rI s 70 v4.toNatClampNeg) = 9 then f_X9_holds_j94 N (f_X9_holds_L20 N k149 n) k149 v1 v2 v3 v4 (rI s 70 v4.toNatClampNeg) s else
        bnd (f_X9_in N (rI s 70 v4.toNatClampNeg) 15 17 s) fun r1 s1 =>
        if r1 = true then f_X9_holds_j94 N (f_X9_holds_L20 N k149 n) k149 v1 v2 v3 v4 (rI s 70 v4.toNatClampNeg) s1 else
        bnd (f_X9_valueOf N (rI s 70 v4.toNatClampNeg) v2 s1) fun r2 s2 =>
        gin v3 210 (
          lt (wI s2 77 v3.toNatClampNeg r2) fun s3 =>
          f_X9_holds_j143 N (f_X9_holds_L20 N k149 n) k149 v1 v2 (v3 + 1) v4 s3)))
def f_X9_holds_j18 (N : Nat) (v1 : Int32) (v2 : Int32) (v3 : Bool) (p0 : Int32) (s : Mem) : Option (Bool × Mem) :=
  f_X9_holds_L20 N (f_X9_holds_j149 N) N v1 v2 (bI v3) p0 s
def f_X9_holds (N : Nat) (a1 : Int32) (a2 : Int32) (s : Mem) : Option (Bool × Mem) :=
  if a1 = 0 then f_X9_holds_j18 N a1 a2 false 0 s else
  gin (a1 - 1) 6 (f_X9_holds_j18 N a1 a2 false (rI s 68 (a1 - 1).toNatClampNeg) s)

def f_X9_clauseOf_L2 (N : Nat) : Nat → Int32 → Int32 → Mem → Option (Int32 × Mem)
  | 0, _, _, _ => none
  | n + 1, v1, v2, s =>
    if (rI s 61 11) ≤ v2 then some ((-1), s) else
    bnd (f_X9_holds N v2 v1 s) fun r1 s1 =>
    if r1 = true then some (v2, s1) else
    f_X9_clauseOf_L2 N n v1 (v2 + 1) s1
def f_X9_clauseOf (N : Nat) (a1 : Int32) (s : Mem) : Option (Int32 × Mem) :=
  f_X9_clauseOf_L2 N N a1 0 s

def f_X9_isTaken (N : Nat) (a1 : Int32) (s : Mem) : Option (Bool × Mem) :=
  bnd (f_X9_clauseOf N a1 s) fun r1 s1 =>
  if r1 < 0 then some (false, s1) else
  gin r1 6 (
    if (rI s1 69 r1.toNatClampNeg) = 1 then some (true, s1) else
    some (false, s1))

def f_X9_takes (N : Nat) (a1 : Int32) (s : Mem) : Option (Int32 × Mem) :=
  bnd (f_X9_isPerson N a1 s) fun r1 s1 =>
  if r1 = true then (
    bnd (f_X9_isTaken N a1 s1) fun r2 s2 =>
    if r2 = true then some (1, s2) else
    some (0, s2))
  else
  some ((-1), s1)

def f_X9_clause (N : Nat) (a1 : Int32) (s : Mem) : Option (Int32 × Mem) :=
  bnd (f_X9_isPerson N a1 s) fun r1 s1 =>
  if r1 = true then (
    bnd (f_X9_clauseOf N a1 s1) fun r2 s2 =>
    if 0 ≤ r2 then some (r2, s2) else
    some ((-3), s2))
  else
  some ((-1), s1)

def f_X9_truth (N : Nat) (a1 : Int32) (a2 : Int32) (s : Mem) : Option (Int32 × Mem) :=
  bnd (f_X9_isPerson N a1 s) fun r1 s1 =>
  if r1 = true then (
    bnd (f_X9_in N a2 (-1) 160 s1) fun r2 s2 =>
    if r2 = true then (
      if 0 ≤ a2 then (
        gin ((4 * a1) + 3) 40 (
          lt (wI s2 62 ((4 * a1) + 3).toNatClampNeg a2) fun s3 =>
          some (1, s3)))
      else
      gin ((4 * a1) + 3) 40 (
        lt (wI s2 62 ((4 * a1) + 3).toNatClampNeg (-9)) fun s4 =>
        some (1, s4)))
    else
    some ((-1), s2))
  else
  some ((-1), s1)

def f_X9_errs_j104 (N : Nat) (k23 : Int32 → Int32 → Int32 → Int32 → Mem → Option (Int32 × Mem)) (v1 : Int32) (v2 : Int32) (v3 : Int32) (v4 : Int32) (s : Mem) : Option (Int32 × Mem) :=
  k23 v1 v2 v3 (v4 + 1) s
def f_X9_errs_j102 (N : Nat) (k23 : Int32 → Int32 → Int32 → Int32 → Mem → Option (Int32 × Mem)) (v1 : Int32) (v2 : Int32) (v4 : Int32) (p0 : Bool) (p1 : Int32) (s : Mem) : Option (Int32 × Mem) :=
  f_X9_errs_j104 N k23 v1 v2 (p1 + (bI p0)) v4 s
def f_X9_errs_j101 (N : Nat) (k23 : Int32 → Int32 → Int32 → Int32 → Mem → Option (Int32 × Mem)) (v1 : Int32) (v2 : Int32) (v4 : Int32) (p0 : Int32) (s : Mem) : Option (Int32 × Mem) :=
  f_X9_errs_j102 N k23 v1 v2 v4 false p0 s
def f_X9_errs_j83 (N : Nat) (k23 : Int32 → Int32 → Int32 → Int32 → Mem → Option (Int32 × Mem)) (v1 : Int32) (v2 : Int32) (v4 : Int32) (v6 : Bool) (p0 : Bool) (p1 : Bool) (p2 : Int32) (s : Mem) : Option (Int32 × Mem) :=
  if (bI p1) = (bI p0) then (
    bnd (f_X9_isTaken N v4 s) fun r1 s1 =>
    if (bI r1) = (bI v6) then f_X9_errs_j101 N k23 v1 v2 v4 p2 s1 else
    f_X9_errs_j102 N k23 v1 v2 v4 true p2 s1)
  else
  f_X9_errs_j101 N k23 v1 v2 v4 p2 s
def f_X9_errs_j68 (N : Nat) (k23 : Int32 → Int32 → Int32 → Int32 → Mem → Option (Int32 × Mem)) (v1 : Int32) (v2 : Int32) (v3 : Int32) (v4 : Int32) (p0 : Bool) (s : Mem) : Option (Int32 × Mem) :=
  if v2 = 1 then f_X9_errs_j83 N k23 v1 v2 v4 p0 true p0 v3 s else
  f_X9_errs_j83 N k23 v1 v2 v4 p0 false p0 v3 s
def f_X9_errs_L23 (N : Nat) : Nat → Int32 → Int32 → Int32 → Int32 → Mem → Option (Int32 × Mem)
  | 0, _, _, _, _, _ => none
  | n + 1, v1, v2, v3, v4, s =>
    if (rI s 61 0) ≤ v4 then some (v3, s) else
    gin ((4 * v4) + 3) 40 (
      lt (rI s 62 ((4 * v4) + 3).toNatClampNeg) fun x1 =>
      if x1 < 0 then f_X9_errs_j104 N (f_X9_errs_L23 N n) v1 v2 v3 v4 s else
      bnd (f_X9_seenOf N v4 s) fun r2 s2 =>
      if (r2 - x1) < v1 then f_X9_errs_j68 N (f_X9_errs_L23 N n) v1 v2 v3 v4 false s2 else
      f_X9_errs_j68 N (f_X9_errs_L23 N n) v1 v2 v3 v4 true s2)
def f_X9_errs (N : Nat) (a1 : Int32) (a2 : Int32) (s : Mem) : Option (Int32 × Mem) :=
  bnd (f_X9_isYear N a1 s) fun r1 s1 =>
  if r1 = true then (
    bnd (f_X9_in N a2 0 1 s1) fun r2 s2 =>
    if r2 = true then f_X9_errs_L23 N N a1 a2 0 0 s2 else
    some ((-1), s2))
  else
  some ((-1), s1)

def f_X9_draw (N : Nat) (a1 : Int32) (a2 : Int32) (a3 : Int32) (a4 : Int32) (s : Mem) : Option (Int32 × Mem) :=
  bnd (f_X9_isPerson N a1 s) fun r1 s1 =>
  if r1 = true then (
    bnd (f_X9_isYear N a2 s1) fun r2 s2 =>
    if r2 = true then (
      bnd (f_X9_isYear N a3 s2) fun r3 s3 =>
      if r3 = true then (
        if a3 < a2 then some ((-1), s3) else
        bnd (f_X9_in N a4 1 99 s3) fun r4 s4 =>
        if r4 = true then (
          if (rI s4 61 7) = 20 then some ((-2), s4) else
          gin (4 * (rI s4 61 7)) 80 (
            lt (wI s4 66 (4 * (rI s4 61 7)).toNatClampNeg a1) fun s5 =>
            gin ((4 * (rI s5 61 7)) + 1) 80 (
              lt (wI s5 66 ((4 * (rI s5 61 7)) + 1).toNatClampNeg a2) fun s6 =>
              gin ((4 * (rI s6 61 7)) + 2) 80 (
                lt (wI s6 66 ((4 * (rI s6 61 7)) + 2).toNatClampNeg a3) fun s7 =>
                gin ((4 * (rI s7 61 7)) + 3) 80 (
                  lt (wI s7 66 ((4 * (rI s7 61 7)) + 3).toNatClampNeg a4) fun s8 =>
                  lt (wI s8 61 7 ((rI s8 61 7) + 1)) fun s9 =>
                  some (((rI s9 61 7) - 1), s9))))))
        else
        some ((-1), s4))
      else
      some ((-1), s3))
    else
    some ((-1), s2))
  else
  some ((-1), s1)

def f_X9_behindOf_j109 (N : Nat) (k11 : Int32 → Int32 → Int32 → Int32 → Mem → Option (Int32 × Mem)) (v1 : Int32) (v2 : Int32) (v4 : Int32) (p0 : Int32) (p1 : Int32) (s : Mem) : Option (Int32 × Mem) :=
  k11 v1 v2 (p1 + p0) (v4 + 1) s
def f_X9_behindOf_j108 (N : Nat) (k11 : Int32 → Int32 → Int32 → Int32 → Mem → Option (Int32 × Mem)) (v1 : Int32) (v2 : Int32) (v4 : Int32) (p0 : Int32) (s : Mem) : Option (Int32 × Mem) :=
  f_X9_behindOf_j109 N k11 v1 v2 v4 0 p0 s
def f_X9_behindOf_j52 (N : Nat) (k11 : Int32 → Int32 → Int32 → Int32 → Mem → Option (Int32 × Mem)) (v1 : Int32) (v2 : Int32) (v3 : Int32) (v4 : Int32) (p0 : Int32) (s : Mem) : Option (Int32 × Mem) :=
  gin ((4 * v4) + 2) 80 (
    lt (((rI s 66 ((4 * v4) + 2).toNatClampNeg) - p0) + 1) fun x1 =>
    gin (4 * v4) 80 (
      if (rI s 66 (4 * v4).toNatClampNeg) = v1 then (
        if x1 ≤ 0 then f_X9_behindOf_j108 N k11 v1 v2 v4 v3 s else
        gin ((4 * v4) + 3) 80 (f_X9_behindOf_j109 N k11 v1 v2 v4 (x1 * (rI s 66 ((4 * v4) + 3).toNatClampNeg)) v3 s))
      else
      f_X9_behindOf_j108 N k11 v1 v2 v4 v3 s))
def f_X9_behindOf_L11 (N : Nat) : Nat → Int32 → Int32 → Int32 → Int32 → Mem → Option (Int32 × Mem)
  | 0, _, _, _, _, _ => none
  | n + 1, v1, v2, v3, v4, s =>
    if (rI s 61 7) ≤ v4 then some (v3, s) else
    gin ((4 * v4) + 1) 80 (
      if (rI s 66 ((4 * v4) + 1).toNatClampNeg) ≤ v2 then f_X9_behindOf_j52 N (f_X9_behindOf_L11 N n) v1 v2 v3 v4 (v2 + 1) s else
      gin ((4 * v4) + 1) 80 (f_X9_behindOf_j52 N (f_X9_behindOf_L11 N n) v1 v2 v3 v4 (rI s 66 ((4 * v4) + 1).toNatClampNeg) s))
def f_X9_behindOf (N : Nat) (a1 : Int32) (s : Mem) : Option (Int32 × Mem) :=
  bnd (f_X9_seenOf N a1 s) fun r1 s1 =>
  f_X9_behindOf_L11 N N a1 r1 0 0 s1

def f_X9_behind (N : Nat) (a1 : Int32) (s : Mem) : Option (Int32 × Mem) :=
  bnd (f_X9_isPerson N a1 s) fun r1 s1 =>
  if r1 = true then (
    bnd (f_X9_behindOf N a1 s1) fun r2 s2 =>
    some (r2, s2))
  else
  some ((-1), s1)

def f_X9_suspect_j85 (N : Nat) (k2 : Int32 → Int32 → Mem → Option (Int32 × Mem)) (v1 : Int32) (v2 : Int32) (s : Mem) : Option (Int32 × Mem) :=
  k2 v1 (v2 + 1) s
def f_X9_suspect_j73 (N : Nat) (k2 : Int32 → Int32 → Mem → Option (Int32 × Mem)) (v1 : Int32) (v2 : Int32) (v3 : Int32) (v4 : Int32) (s : Mem) : Option (Int32 × Mem) :=
  if v3 ≤ 0 then f_X9_suspect_j85 N k2 v1 v2 s else
  if v4 = v1 then some (v2, s) else
  f_X9_suspect_j85 N k2 v1 v2 s
def f_X9_suspect_j64 (N : Nat) (k22 : Int32 → Int32 → Int32 → Int32 → Int32 → Mem → Option (Int32 × Mem)) (k73 : Int32 → Int32 → Int32 → Int32 → Mem → Option (Int32 × Mem)) (v1 : Int32) (v2 : Int32) (v3 : Int32) (v5 : Int32) (p0 : Bool) (p1 : Int32) (s : Mem) : Option (Int32 × Mem) :=
  k22 v1 v2 v3 (p1 + (bI p0)) (v5 + 1) s
def f_X9_suspect_j63 (N : Nat) (k22 : Int32 → Int32 → Int32 → Int32 → Int32 → Mem → Option (Int32 × Mem)) (k73 : Int32 → Int32 → Int32 → Int32 → Mem → Option (Int32 × Mem)) (v1 : Int32) (v2 : Int32) (v3 : Int32) (v5 : Int32) (p0 : Int32) (s : Mem) : Option (Int32 × Mem) :=
  f_X9_suspect_j64 N k22 k73 v1 v2 v3 v5 false p0 s
def f_X9_suspect_j59 (N : Nat) (k22 : Int32 → Int32 → Int32 → Int32 → Int32 → Mem → Option (Int32 × Mem)) (k73 : Int32 → Int32 → Int32 → Int32 → Mem → Option (Int32 × Mem)) (v1 : Int32) (v2 : Int32) (v3 : Int32) (v5 : Int32) (p0 : Int32) (s : Mem) : Option (Int32 × Mem) :=
  f_X9_suspect_j64 N k22 k73 v1 v2 v3 v5 true p0 s
def f_X9_suspect_L22 (N : Nat) (k73 : Int32 → Int32 → Int32 → Int32 → Mem → Option (Int32 × Mem)) : Nat → Int32 → Int32 → Int32 → Int32 → Int32 → Mem → Option (Int32 × Mem)
  | 0, _, _, _, _, _, _ => none
  | n + 1, v1, v2, v3, v4, v5, s =>
    if (rI s 61 0) ≤ v5 then k73 v1 v2 v3 v4 s else
    bnd (f_X9_behindOf N v5 s) fun r1 s1 =>
    if v3 < r1 then f_X9_suspect_j59 N (f_X9_suspect_L22 N k73 n) k73 v1 v2 v3 v5 v4 s1 else
    if r1 = v3 then (
      if v2 ≤ v5 then f_X9_suspect_j63 N (f_X9_suspect_L22 N k73 n) k73 v1 v2 v3 v5 v4 s1 else
      f_X9_suspect_j59 N (f_X9_suspect_L22 N k73 n) k73 v1 v2 v3 v5 v4 s1)
    else
    f_X9_suspect_j63 N (f_X9_suspect_L22 N k73 n) k73 v1 v2 v3 v5 v4 s1
def f_X9_suspect_L2 (N : Nat) : Nat → Int32 → Int32 → Mem → Option (Int32 × Mem)
  | 0, _, _, _ => none
  | n + 1, v1, v2, s =>
    if (rI s 61 0) ≤ v2 then some ((-3), s) else
    bnd (f_X9_behindOf N v2 s) fun r1 s1 =>
    f_X9_suspect_L22 N (f_X9_suspect_j73 N (f_X9_suspect_L2 N n)) N v1 v2 r1 0 0 s1
def f_X9_suspect (N : Nat) (a1 : Int32) (s : Mem) : Option (Int32 × Mem) :=
  f_X9_suspect_L2 N N a1 0 s

def f_X9_heap_j121 (N : Nat) (v1 : Int32) (v2 : Int32) (v3 : Int32) (v4 : Int32) (s : Mem) : Option (Int32 × Mem) :=
  if v1 = 0 then some (v2, s) else
  if v1 = 1 then some (v3, s) else
  if v1 = 2 then some (v4, s) else
  if ((v2 + v3) + v4) = 0 then some (0, s) else
  gnz ((v2 + v3) + v4) (some (((500 * (v2 + v3)) / ((v2 + v3) + v4)), s))
def f_X9_heap_j112 (N : Nat) (k21 : Int32 → Int32 → Int32 → Int32 → Int32 → Mem → Option (Int32 × Mem)) (k121 : Int32 → Int32 → Int32 → Int32 → Mem → Option (Int32 × Mem)) (v1 : Int32) (v2 : Int32) (v3 : Int32) (v5 : Int32) (p0 : Bool) (p1 : Int32) (s : Mem) : Option (Int32 × Mem) :=
  k21 v1 v2 v3 (p1 + (bI p0)) (v5 + 1) s
def f_X9_heap_j111 (N : Nat) (k21 : Int32 → Int32 → Int32 → Int32 → Int32 → Mem → Option (Int32 × Mem)) (k121 : Int32 → Int32 → Int32 → Int32 → Mem → Option (Int32 × Mem)) (v1 : Int32) (v2 : Int32) (v3 : Int32) (v5 : Int32) (p0 : Int32) (s : Mem) : Option (Int32 × Mem) :=
  f_X9_heap_j112 N k21 k121 v1 v2 v3 v5 false p0 s
def f_X9_heap_j92 (N : Nat) (k21 : Int32 → Int32 → Int32 → Int32 → Int32 → Mem → Option (Int32 × Mem)) (k121 : Int32 → Int32 → Int32 → Int32 → Mem → Option (Int32 × Mem)) (v1 : Int32) (v2 : Int32) (v4 : Int32) (v5 : Int32) (v6 : Int32) (p0 : Bool) (p1 : Int32) (s : Mem) : Option (Int32 × Mem) :=
  if v6 ≤ 0 then f_X9_heap_j111 N k21 k121 v1 v2 (p1 + (bI p0)) v5 v4 s else
  if v6 = 5 then f_X9_heap_j111 N k21 k121 v1 v2 (p1 + (bI p0)) v5 v4 s else
  f_X9_heap_j112 N k21 k121 v1 v2 (p1 + (bI p0)) v5 true v4 s
def f_X9_heap_j78 (N : Nat) (k21 : Int32 → Int32 → Int32 → Int32 → Int32 → Mem → Option (Int32 × Mem)) (k121 : Int32 → Int32 → Int32 → Int32 → Mem → Option (Int32 × Mem)) (v1 : Int32) (v3 : Int32) (v4 : Int32) (v5 : Int32) (v6 : Int32) (p0 : Bool) (p1 : Int32) (s : Mem) : Option (Int32 × Mem) :=
  if v6 = 5 then f_X9_heap_j92 N k21 k121 v1 (p1 + (bI p0)) v4 v5 v6 true v3 s else
  f_X9_heap_j92 N k21 k121 v1 (p1 + (bI p0)) v4 v5 v6 false v3 s
def f_X9_heap_j65 (N : Nat) (k21 : Int32 → Int32 → Int32 → Int32 → Int32 → Mem → Option (Int32 × Mem)) (k121 : Int32 → Int32 → Int32 → Int32 → Mem → Option (Int32 × Mem)) (v1 : Int32) (v2 : Int32) (v3 : Int32) (v4 : Int32) (v5 : Int32) (p0 : Int32) (s : Mem) : Option (Int32 × Mem) :=
  if p0 = 0 then f_X9_heap_j78 N k21 k121 v1 v3 v4 v5 p0 true v2 s else
  f_X9_heap_j78 N k21 k121 v1 v3 v4 v5 p0 false v2 s
def f_X9_heap_L21 (N : Nat) (k121 : Int32 → Int32 → Int32 → Int32 → Mem → Option (Int32 × Mem)) : Nat → Int32 → Int32 → Int32 → Int32 → Int32 → Mem → Option (Int32 × Mem)
  | 0, _, _, _, _, _, _ => none
  | n + 1, v1, v2, v3, v4, v5, s =>
    if (rI s 61 2) ≤ v5 then k121 v1 v2 v3 v4 s else
    gin ((6 * v5) + 1) 180 (
      if (rI s 63 ((6 * v5) + 1).toNatClampNeg) = 3 then gin ((6 * v5) + 3) 180 (f_X9_heap_j65 N (f_X9_heap_L21 N k121 n) k121 v1 v2 v3 v4 v5 ((rI s 63 ((6 * v5) + 3).toNatClampNeg) - (rI s 63 ((6 * v5) + 3).toNatClampNeg) / 10 * 10) s) else
      f_X9_heap_j65 N (f_X9_heap_L21 N k121 n) k121 v1 v2 v3 v4 v5 (-1) s)
def f_X9_heap (N : Nat) (a1 : Int32) (s : Mem) : Option (Int32 × Mem) :=
  bnd (f_X9_in N a1 0 3 s) fun r1 s1 =>
  if r1 = true then f_X9_heap_L21 N (f_X9_heap_j121 N) N a1 0 0 0 0 s1 else
  some ((-1), s1)

def f_X9_valley_j167 (N : Nat) (k33 : Int32 → Int32 → Int32 → Int32 → Int32 → Mem → Option (Int32 × Mem)) (v1 : Int32) (v2 : Int32) (v3 : Int32) (v4 : Int32) (v5 : Int32) (s : Mem) : Option (Int32 × Mem) :=
  k33 v1 v2 v3 v4 (v5 + 1) s
def f_X9_valley_j164 (N : Nat) (k33 : Int32 → Int32 → Int32 → Int32 → Int32 → Mem → Option (Int32 × Mem)) (v1 : Int32) (v2 : Int32) (v3 : Int32) (v5 : Int32) (p0 : Bool) (p1 : Int32) (s : Mem) : Option (Int32 × Mem) :=
  f_X9_valley_j167 N k33 v1 v2 v3 (p1 + (bI p0)) v5 s
def f_X9_valley_j150 (N : Nat) (k33 : Int32 → Int32 → Int32 → Int32 → Int32 → Mem → Option (Int32 × Mem)) (v1 : Int32) (v2 : Int32) (v3 : Int32) (v4 : Int32) (v5 : Int32) (p0 : Bool) (s : Mem) : Option (Int32 × Mem) :=
  if p0 = true then f_X9_valley_j164 N k33 v1 v2 v3 v5 true v4 s else
  f_X9_valley_j164 N k33 v1 v2 v3 v5 false v4 s
def f_X9_valley_j103 (N : Nat) (k33 : Int32 → Int32 → Int32 → Int32 → Int32 → Mem → Option (Int32 × Mem)) (v1 : Int32) (v2 : Int32) (v3 : Int32) (v4 : Int32) (v5 : Int32) (s : Mem) : Option (Int32 × Mem) :=
  f_X9_valley_j150 N k33 v1 v2 v3 v4 v5 false s
def f_X9_valley_j134 (N : Nat) (k33 : Int32 → Int32 → Int32 → Int32 → Int32 → Mem → Option (Int32 × Mem)) (v1 : Int32) (v2 : Int32) (v3 : Int32) (v4 : Int32) (v5 : Int32) (s : Mem) : Option (Int32 × Mem) :=
  f_X9_valley_j150 N k33 v1 v2 v3 v4 v5 false s
def f_X9_valley_L33 (N : Nat) : Nat → Int32 → Int32 → Int32 → Int32 → Int32 → Mem → Option (Int32 × Mem)
  | 0, _, _, _, _, _, _ => none
  | n + 1, v1, v2, v3, v4, v5, s =>
    if (rI s 61 0) ≤ v5 then some (v4, s) else
    gin (4 * v5) 40 (
      if (rI s 62 (4 * v5).toNatClampNeg) = v1 then (
        bnd (f_X9_allOf N v5 s) fun r1 s1 =>
        bnd (f_X9_partOf N v5 v2 s1) fun r2 s2 =>
        bnd (f_X9_bestOf N v5 s2) fun r3 s3 =>
        if v3 = 0 then (
          if r1 ≤ 0 then f_X9_valley_j103 N (f_X9_valley_L33 N n) v1 v2 v3 v4 v5 s3 else
          if r2 = r1 then f_X9_valley_j150 N (f_X9_valley_L33 N n) v1 v2 v3 v4 v5 true s3 else
          f_X9_valley_j103 N (f_X9_valley_L33 N n) v1 v2 v3 v4 v5 s3)
        else
        if v3 = 1 then (
          if r3 < 0 then f_X9_valley_j134 N (f_X9_valley_L33 N n) v1 v2 v3 v4 v5 s3 else
          bnd (f_X9_seenOf N v5 s3) fun r4 s4 =>
          if (r4 - r3) < v2 then f_X9_valley_j134 N (f_X9_valley_L33 N n) v1 v2 v3 v4 v5 s4 else
          f_X9_valley_j150 N (f_X9_valley_L33 N n) v1 v2 v3 v4 v5 true s4)
        else
        if r2 ≤ 0 then f_X9_valley_j150 N (f_X9_valley_L33 N n) v1 v2 v3 v4 v5 false s3 else
        f_X9_valley_j150 N (f_X9_valley_L33 N n) v1 v2 v3 v4 v5 true s3)
      else
      f_X9_valley_j167 N (f_X9_valley_L33 N n) v1 v2 v3 v4 v5 s)
def f_X9_valley (N : Nat) (a1 : Int32) (a2 : Int32) (a3 : Int32) (s : Mem) : Option (Int32 × Mem) :=
  bnd (f_X9_in N a1 0 5 s) fun r1 s1 =>
  if r1 = true then (
    bnd (f_X9_isYear N a2 s1) fun r2 s2 =>
    if r2 = true then (
      bnd (f_X9_in N a3 0 2 s2) fun r3 s3 =>
      if r3 = true then f_X9_valley_L33 N N a1 a2 a3 0 0 s3 else
      some ((-1), s3))
    else
    some ((-1), s2))
  else
  some ((-1), s1)

def f_X9_question (N : Nat) (a1 : Int32) (a2 : Int32) (a3 : Int32) (s : Mem) : Option (Int32 × Mem) :=
  bnd (f_X9_isPerson N a1 s) fun r1 s1 =>
  if r1 = true then (
    bnd (f_X9_isYear N a2 s1) fun r2 s2 =>
    if r2 = true then (
      bnd (f_X9_in N a3 1 99 s2) fun r3 s3 =>
      if r3 = true then (
        if (rI s3 61 9) = 8 then some ((-2), s3) else
        gin (4 * (rI s3 61 9)) 32 (
          lt (wI s3 67 (4 * (rI s3 61 9)).toNatClampNeg a1) fun s4 =>
          gin ((4 * (rI s4 61 9)) + 1) 32 (
            lt (wI s4 67 ((4 * (rI s4 61 9)) + 1).toNatClampNeg a2) fun s5 =>
            gin ((4 * (rI s5 61 9)) + 2) 32 (
              lt (wI s5 67 ((4 * (rI s5 61 9)) + 2).toNatClampNeg a3) fun s6 =>
              gin ((4 * (rI s6 61 9)) + 3) 32 (
                lt (wI s6 67 ((4 * (rI s6 61 9)) + 3).toNatClampNeg 0) fun s7 =>
                lt (wI s7 61 9 ((rI s7 61 9) + 1)) fun s8 =>
                some (((rI s8 61 9) - 1), s8))))))
      else
      some ((-1), s3))
    else
    some ((-1), s2))
  else
  some ((-1), s1)

def f_X9_answered_j31 (N : Nat) (k4 : Int32 → Int32 → Mem → Option (Int32 × Mem)) (v2 : Int32) (p0 : Bool) (p1 : Int32) (s : Mem) : Option (Int32 × Mem) :=
  k4 (p1 + (bI p0)) (v2 + 1) s
def f_X9_answered_L4 (N : Nat) : Nat → Int32 → Int32 → Mem → Option (Int32 × Mem)
  | 0, _, _, _ => none
  | n + 1, v1, v2, s =>
    if (rI s 61 9) ≤ v2 then some (v1, s) else
    gin ((4 * v2) + 3) 32 (
      if (rI s 67 ((4 * v2) + 3).toNatClampNeg) ≤ 0 then f_X9_answered_j31 N (f_X9_answered_L4 N n) v2 false v1 s else
      f_X9_answered_j31 N (f_X9_answered_L4 N n) v2 true v1 s)
def f_X9_answered (N : Nat) (s : Mem) : Option (Int32 × Mem) :=
  f_X9_answered_L4 N N 0 0 s

def f_X9_answer_j50 (N : Nat) (p0 : Int32) (p1 : Int32) (s : Mem) : Option (Int32 × Mem) :=
  gin p1 32 (
    lt (wI s 67 p1.toNatClampNeg p0) fun s1 =>
    bnd (f_X9_answered N s1) fun r2 s2 =>
    some (r2, s2))
def f_X9_answer (N : Nat) (a1 : Int32) (a2 : Bool) (s : Mem) : Option (Int32 × Mem) :=
  bnd (f_X9_in N a1 0 ((rI s 61 9) - 1) s) fun r1 s1 =>
  if r1 = true then (
    gin ((4 * a1) + 3) 32 (
      if (rI s1 67 ((4 * a1) + 3).toNatClampNeg) ≤ 0 then (
        if a2 = true then f_X9_answer_j50 N 1 ((4 * a1) + 3) s1 else
        f_X9_answer_j50 N 2 ((4 * a1) + 3) s1)
      else
      some ((-4), s1)))
  else
  some ((-1), s1)

def f_X9_next_j143 (N : Nat) (k18 : Int32 → Int32 → Int64 → Int32 → Mem → Option (Int32 × Mem)) (v1 : Int32) (v2 : Int32) (v3 : Int64) (v5 : Int32) (s : Mem) : Option (Int32 × Mem) :=
  k18 v1 v2 v3 (v5 + 1) s
def f_X9_next_j137 (N : Nat) (k18 : Int32 → Int32 → Int64 → Int32 → Mem → Option (Int32 × Mem)) (v1 : Int32) (v5 : Int32) (v10 : Int64) (s : Mem) : Option (Int32 × Mem) :=
  f_X9_next_j143 N k18 v1 v5 v10 v5 s
def f_X9_next_j123 (N : Nat) (k18 : Int32 → Int32 → Int64 → Int32 → Mem → Option (Int32 × Mem)) (v1 : Int32) (v2 : Int32) (v3 : Int64) (v5 : Int32) (p0 : Int64) (p1 : Int64) (s : Mem) : Option (Int32 × Mem) :=
  if v2 < 0 then f_X9_next_j137 N k18 v1 v5 (p1 * p0) s else
  if v3 ≤ (p1 * p0) then f_X9_next_j143 N k18 v1 v2 v3 v5 s else
  f_X9_next_j137 N k18 v1 v5 (p1 * p0) s
def f_X9_next_L18 (N : Nat) : Nat → Int32 → Int32 → Int64 → Int32 → Mem → Option (Int32 × Mem)
  | 0, _, _, _, _, _ => none
  | n + 1, v1, v2, v3, v5, s =>
    if (rI s 61 9) ≤ v5 then some (v2, s) else
    gin (4 * v5) 32 (
      if (rI s 67 (4 * v5).toNatClampNeg) = v1 then (
        gin ((4 * v5) + 3) 32 (
          if (rI s 67 ((4 * v5) + 3).toNatClampNeg) = 0 then (
            gin ((4 * v5) + 1) 32 (
              bnd (f_X9_sumOf N v1 0 (rI s 67 ((4 * v5) + 1).toNatClampNeg) s) fun r1 s1 =>
              gin ((4 * v5) + 1) 32 (
                bnd (f_X9_sumOf N v1 ((rI s1 67 ((4 * v5) + 1).toNatClampNeg) + 1) 160 s1) fun r2 s2 =>
                gin ((4 * v5) + 2) 32 (
                  if r1 ≤ r2 then f_X9_next_j123 N (f_X9_next_L18 N n) v1 v2 v3 v5 r2 ((rI s2 67 ((4 * v5) + 2).toNatClampNeg).toInt64) s2 else
                  f_X9_next_j123 N (f_X9_next_L18 N n) v1 v2 v3 v5 r1 ((rI s2 67 ((4 * v5) + 2).toNatClampNeg).toInt64) s2))))
          else
          f_X9_next_j143 N (f_X9_next_L18 N n) v1 v2 v3 v5 s))
      else
      f_X9_next_j143 N (f_X9_next_L18 N n) v1 v2 v3 v5 s)
def f_X9_next (N : Nat) (a1 : Int32) (s : Mem) : Option (Int32 × Mem) :=
  bnd (f_X9_isPerson N a1 s) fun r1 s1 =>
  if r1 = true then f_X9_next_L18 N N a1 (-3) 0 0 s1 else
  some ((-1), s1)

def f_X9_prove_j114 (N : Nat) (k44 : Int32 → Int32 → Int32 → Mem → Option (Int32 × Mem)) (v1 : Int32) (v2 : Int32) (v3 : Int32) (s : Mem) : Option (Int32 × Mem) :=
  k44 v1 v2 (v3 + 1) s
def f_X9_prove_j103 (N : Nat) (k44 : Int32 → Int32 → Int32 → Mem → Option (Int32 × Mem)) (v1 : Int32) (v2 : Int32) (v3 : Int32) (p0 : Bool) (p1 : Int32) (s : Mem) : Option (Int32 × Mem) :=
  gin p1 14 (
    lt (wI s 78 p1.toNatClampNeg (bI p0)) fun s1 =>
    lt (wI s1 61 31 ((rI s1 61 31) + 1)) fun s2 =>
    f_X9_prove_j114 N k44 v1 v2 v3 s2)
def f_X9_prove_L44 (N : Nat) : Nat → Int32 → Int32 → Int32 → Mem → Option (Int32 × Mem)
  | 0, _, _, _, _ => none
  | n + 1, v1, v2, v3, s =>
    if (rI s 61 2) ≤ v3 then some ((rI s 61 31), s) else
    gin (6 * v3) 180 (
      if (rI s 63 (6 * v3).toNatClampNeg) = v1 then (
        gin (2 * (rI s 61 31)) 14 (
          lt (wI s 78 (2 * (rI s 61 31)).toNatClampNeg v3) fun s1 =>
          bnd (f_X9_spans N v3 v2 s1) fun r2 s2 =>
          if r2 = true then f_X9_prove_j103 N (f_X9_prove_L44 N n) v1 v2 v3 true ((2 * (rI s1 61 31)) + 1) s2 else
          f_X9_prove_j103 N (f_X9_prove_L44 N n) v1 v2 v3 false ((2 * (rI s1 61 31)) + 1) s2))
      else
      f_X9_prove_j114 N (f_X9_prove_L44 N n) v1 v2 v3 s)
def f_X9_prove (N : Nat) (a1 : Int32) (s : Mem) : Option (Int32 × Mem) :=
  bnd (f_X9_isPerson N a1 s) fun r1 s1 =>
  if r1 = true then (
    bnd (f_X9_bestOf N a1 s1) fun r2 s2 =>
    if 0 ≤ r2 then (
      gin 0 14 (
        lt (wI s2 78 (0 : Int32).toNatClampNeg a1) fun s3 =>
        gin 1 14 (
          lt (wI s3 78 (1 : Int32).toNatClampNeg r2) fun s4 =>
          lt (wI s4 61 31 1) fun s5 =>
          f_X9_prove_L44 N N a1 r2 0 s5)))
    else
    some ((-3), s2))
  else
  some ((-1), s1)

def f_X9_isRow (N : Nat) (a1 : Int32) (a2 : Int32) (s : Mem) : Option (Bool × Mem) :=
  bnd (f_X9_in N a1 0 ((rI s 61 31) - 1) s) fun r1 s1 =>
  if r1 = true then (
    bnd (f_X9_in N a2 0 1 s1) fun r2 s2 =>
    if r2 = true then some (true, s2) else
    some (false, s2))
  else
  some (false, s1)

def f_X9_row (N : Nat) (a1 : Int32) (a2 : Int32) (s : Mem) : Option (Int32 × Mem) :=
  bnd (f_X9_isRow N a1 a2 s) fun r1 s1 =>
  if r1 = true then gin ((2 * a1) + a2) 14 (some ((rI s1 78 ((2 * a1) + a2).toNatClampNeg), s1)) else
  some ((-9), s1)

def f_X9_alterRow (N : Nat) (a1 : Int32) (a2 : Int32) (a3 : Int32) (s : Mem) : Option (Int32 × Mem) :=
  bnd (f_X9_isRow N a1 a2 s) fun r1 s1 =>
  if r1 = true then (
    gin ((2 * a1) + a2) 14 (
      lt (rI s1 78 ((2 * a1) + a2).toNatClampNeg) fun x2 =>
      gin ((2 * a1) + a2) 14 (
        lt (wI s1 78 ((2 * a1) + a2).toNatClampNeg a3) fun s3 =>
        some (x2, s3))))
  else
  some ((-9), s1)

def f_X9_paperFrom_L2 (N : Nat) : Nat → Int32 → Int32 → Mem → Option (Int32 × Mem)
  | 0, _, _, _ => none
  | n + 1, v1, v3, s =>
    if (rI s 61 2) ≤ v3 then some ((-1), s) else
    gin (6 * v3) 180 (
      if (rI s 63 (6 * v3).toNatClampNeg) = v1 then some (v3, s) else
      f_X9_paperFrom_L2 N n v1 (v3 + 1) s)
def f_X9_paperFrom (N : Nat) (a1 : Int32) (a2 : Int32) (s : Mem) : Option (Int32 × Mem) :=
  f_X9_paperFrom_L2 N N a1 a2 s

def f_X9_judge_j135 (N : Nat) (v1 : Int32) (v2 : Int32) (s : Mem) : Option (Int32 × Mem) :=
  bnd (f_X9_paperFrom N v1 v2 s) fun r1 s1 =>
  if 0 ≤ r1 then some (20, s1) else
  some (0, s1)
def f_X9_judge_j117 (N : Nat) (k53 : Int32 → Int32 → Int32 → Mem → Option (Int32 × Mem)) (k135 : Int32 → Int32 → Mem → Option (Int32 × Mem)) (v1 : Int32) (v3 : Int32) (v4 : Int32) (p0 : Bool) (p1 : Int32) (s : Mem) : Option (Int32 × Mem) :=
  if p1 = (bI p0) then k53 v1 (v4 + 1) (v3 + 1) s else
  some ((v3 + 1), s)
def f_X9_judge_L53 (N : Nat) (k135 : Int32 → Int32 → Mem → Option (Int32 × Mem)) : Nat → Int32 → Int32 → Int32 → Mem → Option (Int32 × Mem)
  | 0, _, _, _, _ => none
  | n + 1, v1, v2, v3, s =>
    if (rI s 61 31) ≤ v3 then k135 v1 v2 s else
    bnd (f_X9_paperFrom N v1 v2 s) fun r1 s1 =>
    if r1 < 0 then some ((v3 + 1), s1) else
    gin (2 * v3) 14 (
      if (rI s1 78 (2 * v3).toNatClampNeg) = r1 then (
        gin ((2 * v3) + 1) 14 (
          gin 1 14 (
            bnd (f_X9_spans N r1 (rI s1 78 (1 : Int32).toNatClampNeg) s1) fun r2 s2 =>
            if r2 = true then f_X9_judge_j117 N (f_X9_judge_L53 N k135 n) k135 v1 v3 r1 true (rI s1 78 ((2 * v3) + 1).toNatClampNeg) s2 else
            f_X9_judge_j117 N (f_X9_judge_L53 N k135 n) k135 v1 v3 r1 false (rI s1 78 ((2 * v3) + 1).toNatClampNeg) s2)))
      else
      some ((v3 + 1), s1))
def f_X9_judge (N : Nat) (s : Mem) : Option (Int32 × Mem) :=
  if (rI s 61 31) = 0 then some (30, s) else
  gin 0 14 (
    lt (rI s 78 (0 : Int32).toNatClampNeg) fun x1 =>
    bnd (f_X9_isPerson N x1 s) fun r2 s2 =>
    if r2 = true then (
      bnd (f_X9_bestOf N x1 s2) fun r3 s3 =>
      if r3 < 0 then some (1, s3) else
      bnd (f_X9_bestOf N x1 s3) fun r4 s4 =>
      gin 1 14 (
        if r4 = (rI s4 78 (1 : Int32).toNatClampNeg) then f_X9_judge_L53 N (f_X9_judge_j135 N) N x1 0 1 s4 else
        some (1, s4)))
    else
    some (1, s2))

def f_X9_sheet_L64 (N : Nat) : Nat → Int32 → Int32 → Mem → Option (Int32 × Mem)
  | 0, _, _, _ => none
  | n + 1, v1, v4, s =>
    if 40 ≤ v4 then some (1, s) else
    gin ((40 * v1) + v4) 160 (
      lt (wL s 81 ((40 * v1) + v4).toNatClampNeg 0) fun s1 =>
      f_X9_sheet_L64 N n v1 (v4 + 1) s1)
def f_X9_sheet_j60 (N : Nat) (v1 : Int32) (p0 : Int32) (p1 : Int32) (s : Mem) : Option (Int32 × Mem) :=
  gin p1 4 (
    lt (wI s 80 p1.toNatClampNeg p0) fun s1 =>
    f_X9_sheet_L64 N N v1 0 s1)
def f_X9_sheet_j39 (N : Nat) (v1 : Int32) (v2 : Int32) (v3 : Int32) (s : Mem) : Option (Int32 × Mem) :=
  gin v1 4 (
    lt (wI s 79 v1.toNatClampNeg v2) fun s1 =>
    if 0 ≤ v2 then f_X9_sheet_j60 N v1 v3 v1 s1 else
    f_X9_sheet_j60 N v1 0 v1 s1)
def f_X9_sheet_j28 (N : Nat) (v1 : Int32) (v2 : Int32) (v3 : Int32) (s : Mem) : Option (Int32 × Mem) :=
  if v2 < 0 then f_X9_sheet_j39 N v1 v2 v3 s else
  if 0 ≤ v3 then f_X9_sheet_j39 N v1 v2 v3 s else
  some ((-14), s)
def f_X9_sheet (N : Nat) (a1 : Int32) (a2 : Int32) (a3 : Int32) (s : Mem) : Option (Int32 × Mem) :=
  bnd (f_X9_isShelf N a1 s) fun r1 s1 =>
  if r1 = true then (
    bnd (f_X9_in N a2 (-1) 3 s1) fun r2 s2 =>
    if r2 = true then (
      if a2 < 0 then f_X9_sheet_j28 N a1 a2 a3 s2 else
      if a3 ≤ 40 then f_X9_sheet_j28 N a1 a2 a3 s2 else
      some ((-1), s2))
    else
    some ((-1), s2))
  else
  some ((-1), s1)

def f_X9_put (N : Nat) (a1 : Int32) (a2 : Int32) (a3 : Int32) (s : Mem) : Option (Int32 × Mem) :=
  bnd (f_X9_isShelf N a1 s) fun r1 s1 =>
  if r1 = true then (
    gin a1 4 (
      if 0 ≤ (rI s1 79 a1.toNatClampNeg) then (
        gin a1 4 (
          bnd (f_X9_in N a2 0 ((rI s1 80 a1.toNatClampNeg) - 1) s1) fun r2 s2 =>
          if r2 = true then (
            gin a1 4 (
              if (rI s2 79 a1.toNatClampNeg) = 0 then (
                gin ((40 * a1) + a2) 160 (
                  lt (wL s2 81 ((40 * a1) + a2).toNatClampNeg a3.toInt8.toInt32.toInt64) fun s5 =>
                  some (1, s5)))
              else
              gin a1 4 (
                if (rI s2 79 a1.toNatClampNeg) = 1 then (
                  gin ((40 * a1) + a2) 160 (
                    lt (wL s2 81 ((40 * a1) + a2).toNatClampNeg a3.toInt16.toInt32.toInt64) fun s4 =>
                    some (1, s4)))
                else
                gin ((40 * a1) + a2) 160 (
                  lt (wL s2 81 ((40 * a1) + a2).toNatClampNeg a3.toInt64) fun s3 =>
                  some (1, s3)))))
          else
          some ((-12), s2)))
      else
      some ((-11), s1)))
  else
  some ((-1), s1)

def f_X9_item (N : Nat) (a1 : Int32) (a2 : Int32) (a3 : Int32) (s : Mem) : Option (Int32 × Mem) :=
  bnd (f_X9_isShelf N a1 s) fun r1 s1 =>
  if r1 = true then (
    bnd (f_X9_in N a2 0 3 s1) fun r2 s2 =>
    if r2 = true then (
      bnd (f_X9_lacksSort N a1 a2 s2) fun r3 s3 =>
      if r3 = 0 then (
        gin a1 4 (
          bnd (f_X9_in N a3 0 ((rI s3 80 a1.toNatClampNeg) - 1) s3) fun r4 s4 =>
          if r4 = true then gin ((40 * a1) + a3) 160 (some ((rL s4 81 ((40 * a1) + a3).toNatClampNeg).toInt32, s4)) else
          some ((-12), s4)))
      else
      some (r3, s3))
    else
    some ((-1), s2))
  else
  some ((-1), s1)

def f_X9_register_j144 (N : Nat) (k50 : Int32 → Int32 → Int32 → Int32 → Int32 → Int32 → Mem → Option (Int32 × Mem)) (v1 : Int32) (v2 : Int32) (v3 : Int32) (v4 : Int32) (v7 : Int32) (p0 : Bool) (p1 : Int32) (s : Mem) : Option (Int32 × Mem) :=
  k50 v1 v2 v3 v4 (p1 + (bI p0)) (v7 + 1) s
def f_X9_register_L50 (N : Nat) : Nat → Int32 → Int32 → Int32 → Int32 → Int32 → Int32 → Mem → Option (Int32 × Mem)
  | 0, _, _, _, _, _, _, _ => none
  | n + 1, v1, v2, v3, v4, v6, v7, s =>
    if v4 ≤ v7 then some (v6, s) else
    if v3 < 0 then some ((-12), s) else
    gin v2 4 (
      if v3 ≤ (((rI s 80 v2.toNatClampNeg) - 2) - (2 * v7)) then (
        gin (((40 * v2) + v3) + (2 * v7)) 160 (
          lt ((rL s 81 (((40 * v2) + v3) + (2 * v7)).toNatClampNeg).toInt32) fun x1 =>
          gin ((((40 * v2) + v3) + (2 * v7)) + 1) 160 (
            lt ((rL s 81 ((((40 * v2) + v3) + (2 * v7)) + 1).toNatClampNeg).toInt32) fun x2 =>
            bnd (f_X9_paper N v1 3 x1 x2 10 0 s) fun r3 s3 =>
            if r3 < 0 then f_X9_register_j144 N (f_X9_register_L50 N n) v1 v2 v3 v4 v7 false v6 s3 else
            f_X9_register_j144 N (f_X9_register_L50 N n) v1 v2 v3 v4 v7 true v6 s3)))
      else
      some ((-12), s))
def f_X9_register (N : Nat) (a1 : Int32) (a2 : Int32) (a3 : Int32) (a4 : Int32) (s : Mem) : Option (Int32 × Mem) :=
  bnd (f_X9_isPerson N a1 s) fun r1 s1 =>
  if r1 = true then (
    bnd (f_X9_isShelf N a2 s1) fun r2 s2 =>
    if r2 = true then (
      bnd (f_X9_in N a4 0 10 s2) fun r3 s3 =>
      if r3 = true then (
        bnd (f_X9_lacksSort N a2 0 s3) fun r4 s4 =>
        if r4 = 0 then f_X9_register_L50 N N a1 a2 a3 a4 0 0 s4 else
        some (r4, s4))
      else
      some ((-1), s3))
    else
    some ((-1), s2))
  else
  some ((-1), s1)

def f_X9_isThing (N : Nat) (a1 : Int32) (a2 : Int32) (s : Mem) : Option (Bool × Mem) :=
  if a1 = 0 then (
    bnd (f_X9_isPaper N a2 s) fun r3 s3 =>
    some (r3, s3))
  else
  if a1 = 1 then (
    bnd (f_X9_isPerson N a2 s) fun r2 s2 =>
    some (r2, s2))
  else
  if a1 = 2 then (
    bnd (f_X9_isShelf N a2 s) fun r1 s1 =>
    some (r1, s1))
  else
  if a1 = 3 then some (true, s) else
  some (false, s)

def f_X9_shelf_j68 (N : Nat) (v1 : Int32) (v2 : Int32) (v3 : Int32) (p0 : Int32) (p1 : Int32) (s : Mem) : Option (Int32 × Mem) :=
  gin p1 4 (
    lt (wI s 83 p1.toNatClampNeg p0) fun s1 =>
    if v2 = 2 then (
      gin v3 4 (
        gin v1 4 (
          lt (wI s1 84 v1.toNatClampNeg (rI s1 80 v3.toNatClampNeg)) fun s3 =>
          some (1, s3))))
    else
    gin v1 4 (
      lt (wI s1 84 v1.toNatClampNeg 0) fun s2 =>
      some (1, s2)))
def f_X9_shelf_j47 (N : Nat) (v1 : Int32) (v2 : Int32) (v3 : Int32) (p0 : Int32) (p1 : Int32) (s : Mem) : Option (Int32 × Mem) :=
  gin p1 4 (
    lt (wI s 82 p1.toNatClampNeg p0) fun s1 =>
    if v2 = 2 then gin v3 4 (f_X9_shelf_j68 N v1 v2 v3 (rI s1 79 v3.toNatClampNeg) v1 s1) else
    f_X9_shelf_j68 N v1 v2 v3 v3 v1 s1)
def f_X9_shelf_j46 (N : Nat) (v1 : Int32) (v2 : Int32) (v3 : Int32) (p0 : Int32) (s : Mem) : Option (Int32 × Mem) :=
  f_X9_shelf_j47 N v1 v2 v3 v2 p0 s
def f_X9_shelf_j42 (N : Nat) (v1 : Int32) (v2 : Int32) (v3 : Int32) (p0 : Int32) (s : Mem) : Option (Int32 × Mem) :=
  f_X9_shelf_j47 N v1 v2 v3 (-1) p0 s
def f_X9_shelf (N : Nat) (a1 : Int32) (a2 : Int32) (a3 : Int32) (s : Mem) : Option (Int32 × Mem) :=
  bnd (f_X9_isShelf N a1 s) fun r1 s1 =>
  if r1 = true then (
    bnd (f_X9_isThing N a2 a3 s1) fun r2 s2 =>
    if r2 = true then (
      if a2 = 3 then f_X9_shelf_j42 N a1 a2 a3 a1 s2 else
      if a2 = 2 then (
        gin a3 4 (
          if 0 ≤ (rI s2 79 a3.toNatClampNeg) then f_X9_shelf_j46 N a1 a2 a3 a1 s2 else
          f_X9_shelf_j42 N a1 a2 a3 a1 s2))
      else
      f_X9_shelf_j46 N a1 a2 a3 a1 s2)
    else
    some ((-1), s2))
  else
  some ((-1), s1)

def f_X9_kindOn_j16 (N : Nat) (v2 : Int32) (s : Mem) : Option (Int32 × Mem) :=
  if 0 ≤ v2 then some (9, s) else
  some ((-1), s)
def f_X9_kindOn (N : Nat) (a1 : Int32) (s : Mem) : Option (Int32 × Mem) :=
  gin a1 4 (
    if (rI s 82 a1.toNatClampNeg) < 0 then f_X9_kindOn_j16 N (rI s 82 a1.toNatClampNeg) s else
    if (rI s 82 a1.toNatClampNeg) = 2 then f_X9_kindOn_j16 N (rI s 82 a1.toNatClampNeg) s else
    gin a1 4 (
      bnd (f_X9_isThing N (rI s 82 a1.toNatClampNeg) (rI s 83 a1.toNatClampNeg) s) fun r1 s1 =>
      if r1 = true then (
        if (rI s 82 a1.toNatClampNeg) = 1 then some (8, s1) else
        gin ((6 * (rI s 83 a1.toNatClampNeg)) + 1) 180 (some ((rI s1 63 ((6 * (rI s 83 a1.toNatClampNeg)) + 1).toNatClampNeg), s1)))
      else
      some ((-1), s1)))

def f_X9_isUnder_j118 (N : Nat) (s : Mem) : Option (Bool × Mem) :=
  some (true, s)
def f_X9_isUnder_j101 (N : Nat) (s : Mem) : Option (Bool × Mem) :=
  some (true, s)
def f_X9_isUnder_j84 (N : Nat) (s : Mem) : Option (Bool × Mem) :=
  some (true, s)
def f_X9_isUnder_j62 (N : Nat) (s : Mem) : Option (Bool × Mem) :=
  some (true, s)
def f_X9_isUnder (N : Nat) (a0 : Int32) (a1 : Int32) (s : Mem) : Option (Bool × Mem) :=
  if a1 = 0 then (
    if 8 ≤ a0 then some (false, s) else
    some (true, s))
  else
  if a1 = 1 then (
    if a0 = 1 then f_X9_isUnder_j62 N s else
    if a0 = 4 then f_X9_isUnder_j62 N s else
    some (false, s))
  else
  if a1 = 2 then (
    if a0 = 2 then f_X9_isUnder_j84 N s else
    if a0 = 5 then f_X9_isUnder_j84 N s else
    if a0 = 7 then f_X9_isUnder_j84 N s else
    some (false, s))
  else
  if a1 = 3 then (
    if a0 = 3 then f_X9_isUnder_j101 N s else
    if a0 = 6 then f_X9_isUnder_j101 N s else
    some (false, s))
  else
  if a1 = 4 then (
    if a0 = a1 then some (true, s) else
    some (false, s))
  else
  if a1 = 5 then (
    if a0 = 5 then f_X9_isUnder_j118 N s else
    if a0 = 7 then f_X9_isUnder_j118 N s else
    some (false, s))
  else
  if a0 = a1 then some (true, s) else
  some (false, s)

def f_X9_taken_j30 (N : Nat) (v1 : Int32) (v2 : Int32) (s : Mem) : Option (Int32 × Mem) :=
  bnd (f_X9_kindOn N v1 s) fun r1 s1 =>
  if 0 ≤ r1 then (
    if r1 = 9 then (
      gin v1 4 (
        if v2 = (10 + (rI s1 83 v1.toNatClampNeg)) then gin v1 4 (some ((rI s1 84 v1.toNatClampNeg), s1)) else
        some ((-13), s1)))
    else
    if 10 ≤ v2 then some ((-13), s1) else
    bnd (f_X9_isUnder N r1 v2 s1) fun r2 s2 =>
    if r2 = true then gin v1 4 (some ((rI s2 83 v1.toNatClampNeg), s2)) else
    some ((-13), s2))
  else
  some ((-11), s1)
def f_X9_taken (N : Nat) (a1 : Int32) (a2 : Int32) (s : Mem) : Option (Int32 × Mem) :=
  bnd (f_X9_isShelf N a1 s) fun r1 s1 =>
  if r1 = true then (
    bnd (f_X9_in N a2 0 8 s1) fun r2 s2 =>
    if r2 = true then f_X9_taken_j30 N a1 a2 s2 else
    bnd (f_X9_in N a2 10 13 s2) fun r3 s3 =>
    if r3 = true then f_X9_taken_j30 N a1 a2 s3 else
    some ((-1), s3))
  else
  some ((-1), s1)

def f_X9_ran (N : Nat) (a1 : Int32) (s : Mem) : Option (Unit × Mem) :=
  if 30 ≤ (rI s 61 42) then some ((), s) else
  gin (rI s 61 42) 30 (
    lt (wI s 85 (rI s 61 42).toNatClampNeg a1) fun s1 =>
    lt (wI s1 61 42 ((rI s1 61 42) + 1)) fun s2 =>
    some ((), s2))

def f_X9_saysIt_j141 (N : Nat) (p0 : Int32) (s : Mem) : Option (Int32 × Mem) :=
  if (rI s 61 38) = 7 then some ((p0 * 5), s) else
  some (p0, s)
def f_X9_saysIt_j140 (N : Nat) (v3 : Int32) (s : Mem) : Option (Int32 × Mem) :=
  f_X9_saysIt_j141 N v3 s
def f_X9_saysIt_j117 (N : Nat) (v2 : Bool) (p0 : Bool) (p1 : Int32) (s : Mem) : Option (Int32 × Mem) :=
  if v2 = true then (
    if (rI s 61 38) = 2 then f_X9_saysIt_j140 N (p1 - (bI p0)) s else
    f_X9_saysIt_j141 N ((p1 - (bI p0)) ^^^ (rI s 61 40)) s)
  else
  f_X9_saysIt_j140 N (p1 - (bI p0)) s
def f_X9_saysIt_j96 (N : Nat) (v1 : Int32) (v2 : Bool) (s : Mem) : Option (Int32 × Mem) :=
  bnd (f_X9_ran N 10 s) fun _ s1 =>
  if v2 = true then f_X9_saysIt_j117 N v2 true (v1 + (rI s1 61 40)) s1 else
  f_X9_saysIt_j117 N v2 false (v1 + (rI s1 61 40)) s1
def f_X9_saysIt_j86 (N : Nat) (v1 : Int32) (v2 : Bool) (s : Mem) : Option (Int32 × Mem) :=
  if v2 = true then (
    bnd (f_X9_ran N 20 s) fun _ s1 =>
    f_X9_saysIt_j96 N v1 v2 s1)
  else
  f_X9_saysIt_j96 N v1 v2 s
def f_X9_saysIt_j68 (N : Nat) (v1 : Int32) (v2 : Bool) (s : Mem) : Option (Int32 × Mem) :=
  if v2 = true then (
    if (rI s 61 38) = 2 then f_X9_saysIt_j86 N v1 v2 s else
    bnd (f_X9_ran N 50 s) fun _ s1 =>
    f_X9_saysIt_j86 N v1 v2 s1)
  else
  f_X9_saysIt_j86 N v1 v2 s
def f_X9_saysIt_j52 (N : Nat) (v1 : Int32) (p0 : Bool) (s : Mem) : Option (Int32 × Mem) :=
  if (rI s 61 38) = 7 then (
    bnd (f_X9_ran N 70 s) fun _ s1 =>
    f_X9_saysIt_j68 N v1 p0 s1)
  else
  f_X9_saysIt_j68 N v1 p0 s
def f_X9_saysIt_j47 (N : Nat) (v1 : Int32) (s : Mem) : Option (Int32 × Mem) :=
  f_X9_saysIt_j52 N v1 true s
def f_X9_saysIt (N : Nat) (a1 : Int32) (s : Mem) : Option (Int32 × Mem) :=
  if (rI s 61 38) = 8 then (
    bnd (f_X9_ran N 80 s) fun _ s1 =>
    some (((rI s1 61 40) - a1), s1))
  else
  if (rI s 61 38) = 2 then f_X9_saysIt_j47 N a1 s else
  if (rI s 61 38) = 5 then f_X9_saysIt_j47 N a1 s else
  if (rI s 61 38) = 7 then f_X9_saysIt_j47 N a1 s else
  f_X9_saysIt_j52 N a1 false s

def f_X9_paperLeans (N : Nat) (a1 : Int32) (s : Mem) : Option (Int32 × Mem) :=
  bnd (f_X9_ran N 11 s) fun _ s1 =>
  bnd (f_X9_saysIt N a1 s1) fun r2 s2 =>
  some ((r2 * 2), s2)

def f_X9_countLeans (N : Nat) (a1 : Int32) (s : Mem) : Option (Int32 × Mem) :=
  bnd (f_X9_ran N 30 s) fun _ s1 =>
  bnd (f_X9_paperLeans N a1 s1) fun r2 s2 =>
  bnd (f_X9_saysIt N (rI s2 61 39) s2) fun r3 s3 =>
  some ((r2 + r3), s3)

def f_X9_leansIt (N : Nat) (a1 : Int32) (s : Mem) : Option (Int32 × Mem) :=
  if (rI s 61 38) = 8 then (
    bnd (f_X9_ran N 81 s) fun _ s5 =>
    some ((a1 + (rI s5 61 39)), s5))
  else
  if (rI s 61 38) = 6 then (
    bnd (f_X9_ran N 60 s) fun _ s3 =>
    bnd (f_X9_countLeans N a1 s3) fun r4 s4 =>
    some ((-r4), s4))
  else
  if (rI s 61 38) = 3 then (
    bnd (f_X9_countLeans N a1 s) fun r2 s2 =>
    some (r2, s2))
  else
  bnd (f_X9_paperLeans N a1 s) fun r1 s1 =>
  some (r1, s1)

def f_X9_fitsIt_j51 (N : Nat) (v2 : Int32) (s : Mem) : Option (Int32 × Mem) :=
  bnd (f_X9_ran N 12 s) fun _ s1 =>
  if (rI s1 61 40) = (rI s1 61 39) then (
    lt (wI s1 61 43 1) fun s2 =>
    some (0, s2))
  else
  gnz ((rI s1 61 40) - (rI s1 61 39)) (some ((v2 / ((rI s1 61 40) - (rI s1 61 39))), s1))
def f_X9_fitsIt_j41 (N : Nat) (v1 : Int32) (s : Mem) : Option (Int32 × Mem) :=
  bnd (f_X9_ran N 51 s) fun _ s1 =>
  f_X9_fitsIt_j51 N (v1 + 1) s1
def f_X9_fitsIt (N : Nat) (a1 : Int32) (s : Mem) : Option (Int32 × Mem) :=
  if (rI s 61 38) = 8 then (
    bnd (f_X9_ran N 82 s) fun _ s1 =>
    some ((a1 &&& (rI s1 61 40)), s1))
  else
  if (rI s 61 38) = 5 then f_X9_fitsIt_j41 N a1 s else
  if (rI s 61 38) = 7 then f_X9_fitsIt_j41 N a1 s else
  f_X9_fitsIt_j51 N a1 s

def f_X9_paperTells (N : Nat) (a1 : Int32) (s : Mem) : Option (Int32 × Mem) :=
  bnd (f_X9_ran N 13 s) fun _ s1 =>
  bnd (f_X9_leansIt N a1 s1) fun r2 s2 =>
  some ((r2 ^^^ (rI s2 61 39)), s2)

def f_X9_tellsIt (N : Nat) (a1 : Int32) (s : Mem) : Option (Int32 × Mem) :=
  if (rI s 61 38) = 8 then (
    bnd (f_X9_ran N 83 s) fun _ s7 =>
    bnd (f_X9_saysIt N a1 s7) fun r8 s8 =>
    bnd (f_X9_leansIt N a1 s8) fun r9 s9 =>
    some ((r8 + r9), s9))
  else
  if (rI s 61 38) = 4 then (
    bnd (f_X9_ran N 40 s) fun _ s5 =>
    bnd (f_X9_paperTells N a1 s5) fun r6 s6 =>
    some ((r6 * 3), s6))
  else
  if (rI s 61 38) = 6 then (
    bnd (f_X9_ran N 61 s) fun _ s2 =>
    bnd (f_X9_paperTells N a1 s2) fun r3 s3 =>
    bnd (f_X9_fitsIt N (rI s3 61 39) s3) fun r4 s4 =>
    some ((r3 + r4), s4))
  else
  bnd (f_X9_paperTells N a1 s) fun r1 s1 =>
  some (r1, s1)

def f_X9_act_j142 (N : Nat) (p0 : Int32) (s : Mem) : Option (Int32 × Mem) :=
  if (rI s 61 43) = 0 then some (p0, s) else
  some ((-15), s)
def f_X9_act_j91 (N : Nat) (v2 : Int32) (v3 : Int32) (p0 : Int32) (s : Mem) : Option (Int32 × Mem) :=
  lt (wI s 61 40 p0) fun s1 =>
  lt (wI s1 61 43 0) fun s2 =>
  if v2 = 0 then (
    bnd (f_X9_saysIt N v3 s2) fun r6 s6 =>
    f_X9_act_j142 N r6 s6)
  else
  if v2 = 1 then (
    bnd (f_X9_leansIt N v3 s2) fun r5 s5 =>
    f_X9_act_j142 N r5 s5)
  else
  if v2 = 2 then (
    bnd (f_X9_fitsIt N v3 s2) fun r4 s4 =>
    f_X9_act_j142 N r4 s4)
  else
  bnd (f_X9_tellsIt N v3 s2) fun r3 s3 =>
  f_X9_act_j142 N r3 s3
def f_X9_act (N : Nat) (a1 : Int32) (a2 : Int32) (a3 : Int32) (s : Mem) : Option (Int32 × Mem) :=
  lt (wI s 61 42 0) fun s1 =>
  bnd (f_X9_isShelf N a1 s1) fun r2 s2 =>
  if r2 = true then (
    bnd (f_X9_in N a2 0 3 s2) fun r3 s3 =>
    if r3 = true then (
      bnd (f_X9_kindOn N a1 s3) fun r4 s4 =>
      bnd (f_X9_in N r4 1 8 s4) fun r5 s5 =>
      if r5 = true then (
        bnd (f_X9_kindOn N a1 s5) fun r6 s6 =>
        lt (wI s6 61 38 r6) fun s7 =>
        gin a1 4 (
          lt (wI s7 61 39 (rI s7 83 a1.toNatClampNeg)) fun s8 =>
          if (rI s8 61 38) = 8 then (
            bnd (f_X9_seenOf N (rI s8 61 39) s8) fun r9 s9 =>
            f_X9_act_j91 N a2 a3 r9 s9)
          else
          gin ((6 * (rI s8 61 39)) + 3) 180 (f_X9_act_j91 N a2 a3 (rI s8 63 ((6 * (rI s8 61 39)) + 3).toNatClampNeg) s8)))
      else
      some (0, s5))
    else
    some (0, s3))
  else
  some (0, s2)

def f_X9_trace (N : Nat) (a1 : Int32) (s : Mem) : Option (Int32 × Mem) :=
  bnd (f_X9_in N a1 0 ((rI s 61 42) - 1) s) fun r1 s1 =>
  if r1 = true then gin a1 30 (some ((rI s1 85 a1.toNatClampNeg), s1)) else
  some ((-3), s1)

def f_X9_many (N : Nat) (a1 : Int32) (s : Mem) : Option (Int32 × Mem) :=
  if a1 = 0 then some ((rI s 61 0), s) else
  if a1 = 1 then some ((rI s 61 2), s) else
  if a1 = 2 then some ((rI s 61 11), s) else
  if a1 = 3 then some ((rI s 61 5), s) else
  if a1 = 4 then some ((rI s 61 7), s) else
  if a1 = 5 then some ((rI s 61 9), s) else
  if a1 = 6 then (
    bnd (f_X9_answered N s) fun r1 s1 =>
    some (r1, s1))
  else
  if a1 = 7 then some ((rI s 61 31), s) else
  if a1 = 8 then some ((rI s 61 17), s) else
  if a1 = 9 then some ((rI s 61 42), s) else
  some ((-1), s)

def f_X9_move_j42 (N : Nat) (ar : Nat) (k3 : Int32 → Bool → Int32 → Mem → Option (Unit × Mem)) (v2 : Int32) (v3 : Bool) (v4 : Int32) (s : Mem) : Option (Unit × Mem) :=
  lt (wI s 61 46 ((rI s 61 46) + 1)) fun s1 =>
  k3 v2 v3 (v4 + 1) s1
def f_X9_move_L3 (N : Nat) (ar : Nat) : Nat → Int32 → Bool → Int32 → Mem → Option (Unit × Mem)
  | 0, _, _, _, _ => none
  | n + 1, v2, v3, v4, s =>
    if v2 ≤ v4 then some ((), s) else
    if v3 = true then (
      gin v4 (ln ar) (
        gin (rI s 61 46) 700 (
          lt (wI s 86 (rI s 61 46).toNatClampNeg (rI s ar v4.toNatClampNeg)) fun s2 =>
          f_X9_move_j42 N ar (f_X9_move_L3 N ar n) v2 v3 v4 s2)))
    else
    gin (rI s 61 46) 700 (
      gin v4 (ln ar) (
        lt (wI s ar v4.toNatClampNeg (rI s 86 (rI s 61 46).toNatClampNeg)) fun s1 =>
        f_X9_move_j42 N ar (f_X9_move_L3 N ar n) v2 v3 v4 s1))
def f_X9_move (N : Nat) (ar : Nat) (a2 : Int32) (a3 : Bool) (s : Mem) : Option (Unit × Mem) :=
  f_X9_move_L3 N ar N a2 a3 0 s

def f_X9_moveAll (N : Nat) (a1 : Bool) (s : Mem) : Option (Unit × Mem) :=
  lt (wI s 61 46 0) fun s1 =>
  gin 0 6 (
    lt (wI s1 87 (0 : Int32).toNatClampNeg (rI s1 61 0)) fun s2 =>
    gin 1 6 (
      lt (wI s2 87 (1 : Int32).toNatClampNeg (rI s2 61 2)) fun s3 =>
      gin 2 6 (
        lt (wI s3 87 (2 : Int32).toNatClampNeg (rI s3 61 5)) fun s4 =>
        gin 3 6 (
          lt (wI s4 87 (3 : Int32).toNatClampNeg (rI s4 61 7)) fun s5 =>
          gin 4 6 (
            lt (wI s5 87 (4 : Int32).toNatClampNeg (rI s5 61 9)) fun s6 =>
            gin 5 6 (
              lt (wI s6 87 (5 : Int32).toNatClampNeg (rI s6 61 11)) fun s7 =>
              bnd (f_X9_move N 87 6 a1 s7) fun _ s8 =>
              bnd (f_X9_move N 62 40 a1 s8) fun _ s9 =>
              bnd (f_X9_move N 63 180 a1 s9) fun _ s10 =>
              bnd (f_X9_move N 64 17 a1 s10) fun _ s11 =>
              bnd (f_X9_move N 65 80 a1 s11) fun _ s12 =>
              bnd (f_X9_move N 66 80 a1 s12) fun _ s13 =>
              bnd (f_X9_move N 67 32 a1 s13) fun _ s14 =>
              bnd (f_X9_move N 68 6 a1 s14) fun _ s15 =>
              bnd (f_X9_move N 69 6 a1 s15) fun _ s16 =>
              bnd (f_X9_move N 70 210 a1 s16) fun _ s17 =>
              some ((), s17)))))))

def f_X9_keep (N : Nat) (s : Mem) : Option (Int32 × Mem) :=
  bnd (f_X9_moveAll N true s) fun _ s1 =>
  lt (wI s1 61 44 1) fun s2 =>
  some (1, s2)

def f_X9_again (N : Nat) (s : Mem) : Option (Int32 × Mem) :=
  if (rI s 61 44) = 0 then some ((-3), s) else
  bnd (f_X9_moveAll N false s) fun _ s1 =>
  gin 0 6 (
    lt (wI s1 61 0 (rI s1 87 (0 : Int32).toNatClampNeg)) fun s2 =>
    gin 1 6 (
      lt (wI s2 61 2 (rI s2 87 (1 : Int32).toNatClampNeg)) fun s3 =>
      gin 2 6 (
        lt (wI s3 61 5 (rI s3 87 (2 : Int32).toNatClampNeg)) fun s4 =>
        gin 3 6 (
          lt (wI s4 61 7 (rI s4 87 (3 : Int32).toNatClampNeg)) fun s5 =>
          gin 4 6 (
            lt (wI s5 61 9 (rI s5 87 (4 : Int32).toNatClampNeg)) fun s6 =>
            gin 5 6 (
              lt (wI s6 61 11 (rI s6 87 (5 : Int32).toNatClampNeg)) fun s7 =>
              some (1, s7)))))))
