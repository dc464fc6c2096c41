def fJ7_fill_53178_5B (k5 : Int32 → Int32 → Int32 → Mem → Option Mem) (a0 : Nat) (n0 : Nat) (x1 : Int32) (x2 : Int32) (x3 : Int32) (M : Mem) : Option Mem :=
  if x3 ≤ x2 then
  some M
  else
  (wI M a0 n0 (x2) (x1)).bind fun M1 =>
    k5 (x1) (x2 + 1) (x3) M1
def fJ7_fill_53178_5L  (a0 : Nat) (n0 : Nat)  : Nat → Int32 → Int32 → Int32 → Mem → Option Mem
  | 0 => fun _ _ _ _ => none
  | n + 1 => fun x1 x2 x3 M => fJ7_fill_53178_5B  (fJ7_fill_53178_5L  a0 n0 n) a0 n0 x1 x2 x3 M
def fJ7_fill_53178  (a0 : Nat) (n0 : Nat) (x1 : Int32) (M : Mem) : Option Mem :=
  fJ7_fill_53178_5L  a0 n0 FU (x1) (0) (Int32.ofNat n0) M

def fX1_ofFact  (b : Nat) (x1 : Int32) (x2 : Int32) (M : Mem) : Option Int32 :=
  (rI M (b + 1) 80 ((4 * x1) + x2)).bind fun v1 =>
  some (v1)

def fX4_isBetween  (x0 : Int32) (x1 : Int32) (x2 : Int32)  : Option Int32 :=
  if x0 < x1 then
  some (0)
  else
  if x2 < x0 then
    some (0)
    else
    some (1)

def fX0_tallyOf  (x0 : Int32) (x1 : Int32) (x2 : Int32)  : Option Int32 :=
  some (((((2 * x0) + x1) * 81) + 40) + x2)

def fX0_countFact  (x1 : Int32) (x2 : Int32) (x3 : Int32) (M : Mem) : Option Mem :=
  (fX4_isBetween  (x3) ((-40)) (40)).bind fun v1 =>
  if v1 = 0 then
  some M
  else
  (fX0_tallyOf  (x1) (x2) (x3)).bind fun v2 =>
    (rI M 22 648 (v2)).bind fun v3 =>
    (wI M 22 648 (v2) (v3 + 1)).bind fun M4 =>
    if x2 = 3 then
    (wF M4 21 2 ((M4.1 21 2) + 1)).bind fun M6 =>
      some M6
    else
    (wF M4 21 2 ((M4.1 21 2) + 0)).bind fun M5 =>
      some M5

def fX0_countFacts_80 (k15 : Int32 → Mem → Option Mem) (o1 : Nat) (x2 : Int32) (s0 : Int32) (s1 : Int32) (s2 : Int32) (M : Mem) : Option Mem :=
  (fX0_countFact  (s2) (s1) (s0) M).bind fun v1 =>
  k15 (x2 + 1) v1
def fX0_countFacts_15B (k15 : Int32 → Mem → Option Mem) (o1 : Nat) (x2 : Int32) (M : Mem) : Option Mem :=
  if (M.1 o1 4) ≤ x2 then
  some M
  else
  (fX1_ofFact o1 (x2) (0) M).bind fun v1 =>
    (fX1_ofFact o1 (x2) (2) M).bind fun v2 =>
    (fX1_ofFact o1 (x2) (3) M).bind fun v3 =>
    (fX1_ofFact o1 (x2) (1) M).bind fun v4 =>
    if v2 ≤ v1 then
    fX0_countFacts_80 k15 o1 (x2) (-(v3 - v4)) (imax v1 v2) (imin v1 v2) M
    else
    fX0_countFacts_80 k15 o1 (x2) (v3 - v4) (imax v1 v2) (imin v1 v2) M
def fX0_countFacts_15L  (o1 : Nat)  : Nat → Int32 → Mem → Option Mem
  | 0 => fun _ _ => none
  | n + 1 => fun x2 M => fX0_countFacts_15B  (fX0_countFacts_15L  o1 n) o1 x2 M
def fX0_countFacts  (o1 : Nat) (M : Mem) : Option Mem :=
  (fJ7_fill_53178 22 648 (0) M).bind fun v1 =>
  (wF v1 21 2 (0)).bind fun M2 =>
  fX0_countFacts_15L  o1 FU (0) M2

def fX0_tally  (x1 : Int32) (x2 : Int32) (x3 : Int32) (M : Mem) : Option Int32 :=
  (fX0_tallyOf  (x1) (x2) (x3)).bind fun v1 =>
  (rI M 22 648 (v1)).bind fun v2 =>
  some (v2)

def fX0_tryLastClock_82 (k4 : Int32 → Int32 → Int32 → Int32 → Mem → Option Mem) (x1 : Int32) (x2 : Int32) (x3 : Int32) (x4 : Int32) (M : Mem) : Option Mem :=
  k4 (x1) (x2) (x3) (x4 + 1) M
def fX0_tryLastClock_4B (k4 : Int32 → Int32 → Int32 → Int32 → Mem → Option Mem) (x1 : Int32) (x2 : Int32) (x3 : Int32) (x4 : Int32) (M : Mem) : Option Mem :=
  if 20 < x4 then
  some M
  else
  (fX0_tally  (0) (3) (x4) M).bind fun v1 =>
    (fX0_tally  (1) (3) (x4 - x1) M).bind fun v2 =>
    (fX0_tally  (2) (3) (x4 - x2) M).bind fun v3 =>
    if (((x3 + v1) + v2) + v3) ≤ (M.1 21 3) then
    fX0_tryLastClock_82 k4  (x1) (x2) (x3) (x4) M
    else
    (wF M 21 3 (((x3 + v1) + v2) + v3)).bind fun M4 =>
      (wI M4 23 4 (1) (x1)).bind fun M5 =>
      (wI M5 23 4 (2) (x2)).bind fun M6 =>
      (wI M6 23 4 (3) (x4)).bind fun M7 =>
      fX0_tryLastClock_82 k4  (x1) (x2) (x3) (x4) M7
def fX0_tryLastClock_4L    : Nat → Int32 → Int32 → Int32 → Int32 → Mem → Option Mem
  | 0 => fun _ _ _ _ _ => none
  | n + 1 => fun x1 x2 x3 x4 M => fX0_tryLastClock_4B  (fX0_tryLastClock_4L   n)  x1 x2 x3 x4 M
def fX0_tryLastClock  (x1 : Int32) (x2 : Int32) (x3 : Int32) (M : Mem) : Option Mem :=
  fX0_tryLastClock_4L   FU (x1) (x2) (x3) ((-20)) M

def fX0_putRight_77 (k13 : Int32 → Mem → Option Mem) (k22 : Int32 → Int32 → Mem → Option Mem) (o1 : Nat) (x2 : Int32) (x3 : Int32) (M : Mem) : Option Mem :=
  k22 (x2) (x3 + 1) M
def fX0_putRight_22B (k13 : Int32 → Mem → Option Mem) (k22 : Int32 → Int32 → Mem → Option Mem) (o1 : Nat) (x2 : Int32) (x3 : Int32) (M : Mem) : Option Mem :=
  if 20 < x3 then
  k13 (x2 + 1) M
  else
  (fX0_tally  (0) (1) (x2) M).bind fun v1 =>
    (fX0_tally  (0) (2) (x3) M).bind fun v2 =>
    (fX0_tally  (1) (2) (x3 - x2) M).bind fun v3 =>
    if (((v1 + v2) + v3) + (M.1 21 2)) ≤ (M.1 21 3) then
    fX0_putRight_77 k13 k22 o1 (x2) (x3) M
    else
    (fX0_tryLastClock  (x2) (x3) ((v1 + v2) + v3) M).bind fun v4 =>
      fX0_putRight_77 k13 k22 o1 (x2) (x3) v4
def fX0_putRight_22L (k13 : Int32 → Mem → Option Mem) (o1 : Nat)  : Nat → Int32 → Int32 → Mem → Option Mem
  | 0 => fun _ _ _ => none
  | n + 1 => fun x2 x3 M => fX0_putRight_22B k13 (fX0_putRight_22L k13 o1 n) o1 x2 x3 M
def fX0_putRight_13B (k13 : Int32 → Mem → Option Mem) (o1 : Nat) (x2 : Int32) (M : Mem) : Option Mem :=
  if 20 < x2 then
  (wF M 21 4 ((M.1 o1 4) - (M.1 21 3))).bind fun M1 =>
    some M1
  else
  fX0_putRight_22L k13 o1 FU (x2) ((-20)) M
def fX0_putRight_13L  (o1 : Nat)  : Nat → Int32 → Mem → Option Mem
  | 0 => fun _ _ => none
  | n + 1 => fun x2 M => fX0_putRight_13B  (fX0_putRight_13L  o1 n) o1 x2 M
def fX0_putRight  (o1 : Nat) (M : Mem) : Option Mem :=
  (fX0_countFacts o1  M).bind fun v1 =>
  (wF v1 21 3 ((-1))).bind fun M2 =>
  fX0_putRight_13L  o1 FU ((-20)) M2

def fX1_tellNothingOfHat  (b : Nat) (M : Mem) : Option Mem :=
  (fJ7_fill_53178 (b + 3) 10 (2) M).bind fun v1 =>
  some v1

def fX1_become  (b : Nat) (o1 : Nat) (M : Mem) : Option Mem :=
  (cpI M (o1 + 1) 80 (0) (b + 1) 80 (0) (80)).bind fun M1 =>
  (cpI M1 (o1 + 2) 32 (0) (b + 2) 32 (0) (32)).bind fun M2 =>
  (cpI M2 (o1 + 3) 10 (0) (b + 3) 10 (0) (10)).bind fun M3 =>
  (wF M3 b 4 (M3.1 o1 4)).bind fun M4 =>
  (wF M4 b 5 (M4.1 o1 5)).bind fun M5 =>
  some M5

def fX1_putRow  (a0 : Nat) (n0 : Nat) (x1 : Int32) (x2 : Int32) (x3 : Int32) (x4 : Int32) (x5 : Int32) (M : Mem) : Option Mem :=
  (wI M a0 n0 (x1) (x2)).bind fun M1 =>
  (wI M1 a0 n0 (x1 + 1) (x3)).bind fun M2 =>
  (wI M2 a0 n0 (x1 + 2) (x4)).bind fun M3 =>
  (wI M3 a0 n0 (x1 + 3) (x5)).bind fun M4 =>
  some M4

def fX1_addFact  (b : Nat) (x1 : Int32) (x2 : Int32) (x3 : Int32) (x4 : Int32) (M : Mem) : Option (Int32 × Mem) :=
  if 20 ≤ (M.1 b 4) then
  some (M.1 b 4, M)
  else
  (fX1_putRow (b + 1) 80 (4 * (M.1 b 4)) (x1) (x2) (x3) (x4) M).bind fun v1 =>
    (wF v1 b 4 ((v1.1 b 4) + 1)).bind fun M2 =>
    some (M2.1 b 4, M2)

def fX1_addSeen  (b : Nat) (x1 : Int32) (x2 : Int32) (x3 : Int32) (x4 : Int32) (M : Mem) : Option (Int32 × Mem) :=
  if 8 ≤ (M.1 b 5) then
  some (M.1 b 5, M)
  else
  (fX1_putRow (b + 2) 32 (4 * (M.1 b 5)) (x1) (x2) (x3) (x4) M).bind fun v1 =>
    (wF v1 b 5 ((v1.1 b 5) + 1)).bind fun M2 =>
    some (M2.1 b 5, M2)

def fX1_ofSeen  (b : Nat) (x1 : Int32) (x2 : Int32) (M : Mem) : Option Int32 :=
  (rI M (b + 2) 32 ((4 * x1) + x2)).bind fun v1 =>
  some (v1)

def fX1_canBeOne  (b : Nat) (x1 : Int32) (x2 : Int32) (M : Mem) : Option Int32 :=
  (fX1_ofSeen b (x1) (0) M).bind fun v1 =>
  (fX1_ofSeen b (x2) (0) M).bind fun v2 =>
  (fX1_ofSeen b (x1) (1) M).bind fun v3 =>
  (fX1_ofSeen b (x2) (1) M).bind fun v4 =>
  (fX1_ofSeen b (x1) (2) M).bind fun v5 =>
  (fX1_ofSeen b (x2) (2) M).bind fun v6 =>
  (fX1_ofSeen b (x1) (3) M).bind fun v7 =>
  (fX1_ofSeen b (x2) (3) M).bind fun v8 =>
  if v7 = v8 then
  if (iabs (v5 - v6)) < ((iabs (v1 - v2)) + (iabs (v3 - v4))) then
    some (0)
    else
    some (1)
  else
  some (0)

def fX1_findJoinable_53 (k2 : Int32 → Mem → Option Mem) (k19 : Int32 → Int32 → Mem → Option Mem) (b : Nat) (x1 : Int32) (x2 : Int32) (M : Mem) : Option Mem :=
  k19 (x1) (x2 + 1) M
def fX1_findJoinable_19B (k2 : Int32 → Mem → Option Mem) (k19 : Int32 → Int32 → Mem → Option Mem) (b : Nat) (x1 : Int32) (x2 : Int32) (M : Mem) : Option Mem :=
  if (M.1 b 5) ≤ x2 then
  k2 (x1 + 1) M
  else
  if x2 = x1 then
    fX1_findJoinable_53 k2 k19 b (x1) (x2) M
    else
    (fX1_canBeOne b (x1) (x2) M).bind fun v1 =>
      if v1 = 0 then
      fX1_findJoinable_53 k2 k19 b (x1) (x2) M
      else
      (rI M (b + 4) 8 (x1)).bind fun v2 =>
        (wI M (b + 4) 8 (x1) (v2 ||| (1 <<< (x2 &&& 31)))).bind fun M3 =>
        fX1_findJoinable_53 k2 k19 b (x1) (x2) M3
def fX1_findJoinable_19L (k2 : Int32 → Mem → Option Mem) (b : Nat)  : Nat → Int32 → Int32 → Mem → Option Mem
  | 0 => fun _ _ _ => none
  | n + 1 => fun x1 x2 M => fX1_findJoinable_19B k2 (fX1_findJoinable_19L k2 b n) b x1 x2 M
def fX1_findJoinable_2B (k2 : Int32 → Mem → Option Mem) (b : Nat) (x1 : Int32) (M : Mem) : Option Mem :=
  if (M.1 b 5) ≤ x1 then
  some M
  else
  (wI M (b + 4) 8 (x1) (0)).bind fun M1 =>
    fX1_findJoinable_19L k2 b FU (x1) (0) M1
def fX1_findJoinable_2L  (b : Nat)  : Nat → Int32 → Mem → Option Mem
  | 0 => fun _ _ => none
  | n + 1 => fun x1 M => fX1_findJoinable_2B  (fX1_findJoinable_2L  b n) b x1 M
def fX1_findJoinable  (b : Nat) (M : Mem) : Option Mem :=
  fX1_findJoinable_2L  b FU (0) M

def fX1_areAllUnlike_31 (k2 : Int32 → Int32 → Option Int32) (b : Nat) (x1 : Int32) (x2 : Int32) (M : Mem) : Option Int32 :=
  k2 (x1) (x2 + 1)
def fX1_areAllUnlike_2B (k2 : Int32 → Int32 → Option Int32) (b : Nat) (x1 : Int32) (x2 : Int32) (M : Mem) : Option Int32 :=
  if (M.1 b 5) ≤ x2 then
  some (1)
  else
  if ((x1 >>> (x2 &&& 31)) &&& 1) = 0 then
    fX1_areAllUnlike_31 k2 b (x1) (x2) M
    else
    (rI M (b + 4) 8 (x2)).bind fun v1 =>
      if (v1 &&& x1) = 0 then
      fX1_areAllUnlike_31 k2 b (x1) (x2) M
      else
      some (0)
def fX1_areAllUnlike_2L  (b : Nat) (M : Mem) : Nat → Int32 → Int32 → Option Int32
  | 0 => fun _ _ => none
  | n + 1 => fun x1 x2 => fX1_areAllUnlike_2B  (fX1_areAllUnlike_2L  b M n) b x1 x2 M
def fX1_areAllUnlike  (b : Nat) (x1 : Int32) (M : Mem) : Option Int32 :=
  fX1_areAllUnlike_2L  b M FU (x1) (0)

def fJ6_bitCount_0f7a4  (x0 : Int32)  : Option Int32 :=
  some ((((((((x0 - (((x0.toUInt32 >>> ((1 : Int32).toUInt32 &&& Int32.toUInt32 31)).toInt32) &&& 1431655765)) &&& 858993459) + ((((x0 - (((x0.toUInt32 >>> ((1 : Int32).toUInt32 &&& Int32.toUInt32 31)).toInt32) &&& 1431655765)).toUInt32 >>> ((2 : Int32).toUInt32 &&& Int32.toUInt32 31)).toInt32) &&& 858993459)) + (((((x0 - (((x0.toUInt32 >>> ((1 : Int32).toUInt32 &&& Int32.toUInt32 31)).toInt32) &&& 1431655765)) &&& 858993459) + ((((x0 - (((x0.toUInt32 >>> ((1 : Int32).toUInt32 &&& Int32.toUInt32 31)).toInt32) &&& 1431655765)).toUInt32 >>> ((2 : Int32).toUInt32 &&& Int32.toUInt32 31)).toInt32) &&& 858993459)).toUInt32 >>> ((4 : Int32).toUInt32 &&& Int32.toUInt32 31)).toInt32)) &&& 252645135) + (((((((x0 - (((x0.toUInt32 >>> ((1 : Int32).toUInt32 &&& Int32.toUInt32 31)).toInt32) &&& 1431655765)) &&& 858993459) + ((((x0 - (((x0.toUInt32 >>> ((1 : Int32).toUInt32 &&& Int32.toUInt32 31)).toInt32) &&& 1431655765)).toUInt32 >>> ((2 : Int32).toUInt32 &&& Int32.toUInt32 31)).toInt32) &&& 858993459)) + (((((x0 - (((x0.toUInt32 >>> ((1 : Int32).toUInt32 &&& Int32.toUInt32 31)).toInt32) &&& 1431655765)) &&& 858993459) + ((((x0 - (((x0.toUInt32 >>> ((1 : Int32).toUInt32 &&& Int32.toUInt32 31)).toInt32) &&& 1431655765)).toUInt32 >>> ((2 : Int32).toUInt32 &&& Int32.toUInt32 31)).toInt32) &&& 858993459)).toUInt32 >>> ((4 : Int32).toUInt32 &&& Int32.toUInt32 31)).toInt32)) &&& 252645135).toUInt32 >>> ((8 : Int32).toUInt32 &&& Int32.toUInt32 31)).toInt32)) + ((((((((x0 - (((x0.toUInt32 >>> ((1 : Int32).toUInt32 &&& Int32.toUInt32 31)).toInt32) &&& 1431655765)) &&& 858993459) + ((((x0 - (((x0.toUInt32 >>> ((1 : Int32).toUInt32 &&& Int32.toUInt32 31)).toInt32) &&& 1431655765)).toUInt32 >>> ((2 : Int32).toUInt32 &&& Int32.toUInt32 31)).toInt32) &&& 858993459)) + (((((x0 - (((x0.toUInt32 >>> ((1 : Int32).toUInt32 &&& Int32.toUInt32 31)).toInt32) &&& 1431655765)) &&& 858993459) + ((((x0 - (((x0.toUInt32 >>> ((1 : Int32).toUInt32 &&& Int32.toUInt32 31)).toInt32) &&& 1431655765)).toUInt32 >>> ((2 : Int32).toUInt32 &&& Int32.toUInt32 31)).toInt32) &&& 858993459)).toUInt32 >>> ((4 : Int32).toUInt32 &&& Int32.toUInt32 31)).toInt32)) &&& 252645135) + (((((((x0 - (((x0.toUInt32 >>> ((1 : Int32).toUInt32 &&& Int32.toUInt32 31)).toInt32) &&& 1431655765)) &&& 858993459) + ((((x0 - (((x0.toUInt32 >>> ((1 : Int32).toUInt32 &&& Int32.toUInt32 31)).toInt32) &&& 1431655765)).toUInt32 >>> ((2 : Int32).toUInt32 &&& Int32.toUInt32 31)).toInt32) &&& 858993459)) + (((((x0 - (((x0.toUInt32 >>> ((1 : Int32).toUInt32 &&& Int32.toUInt32 31)).toInt32) &&& 1431655765)) &&& 858993459) + ((((x0 - (((x0.toUInt32 >>> ((1 : Int32).toUInt32 &&& Int32.toUInt32 31)).toInt32) &&& 1431655765)).toUInt32 >>> ((2 : Int32).toUInt32 &&& Int32.toUInt32 31)).toInt32) &&& 858993459)).toUInt32 >>> ((4 : Int32).toUInt32 &&& Int32.toUInt32 31)).toInt32)) &&& 252645135).toUInt32 >>> ((8 : Int32).toUInt32 &&& Int32.toUInt32 31)).toInt32)).toUInt32 >>> ((16 : Int32).toUInt32 &&& Int32.toUInt32 31)).toInt32)) &&& 63)

def fX1_fewestPeople_39 (k8 : Int32 → Int32 → Mem → Option (Int32 × Mem)) (b : Nat) (x1 : Int32) (x2 : Int32) (M : Mem) : Option (Int32 × Mem) :=
  k8 (x1) (x2 + 1) M
def fX1_fewestPeople_8B (k8 : Int32 → Int32 → Mem → Option (Int32 × Mem)) (b : Nat) (x1 : Int32) (x2 : Int32) (M : Mem) : Option (Int32 × Mem) :=
  if (1 <<< ((M.1 b 5) &&& 31)) ≤ x2 then
  some (x1, M)
  else
  (fJ6_bitCount_0f7a4  (x2)).bind fun v1 =>
    if v1 ≤ x1 then
    fX1_fewestPeople_39 k8 b (x1) (x2) M
    else
    (fX1_areAllUnlike b (x2) M).bind fun v2 =>
      if v2 = 0 then
      fX1_fewestPeople_39 k8 b (x1) (x2) M
      else
      (fJ6_bitCount_0f7a4  (x2)).bind fun v3 =>
        fX1_fewestPeople_39 k8 b (v3) (x2) M
def fX1_fewestPeople_8L  (b : Nat)  : Nat → Int32 → Int32 → Mem → Option (Int32 × Mem)
  | 0 => fun _ _ _ => none
  | n + 1 => fun x1 x2 M => fX1_fewestPeople_8B  (fX1_fewestPeople_8L  b n) b x1 x2 M
def fX1_fewestPeople  (b : Nat) (M : Mem) : Option (Int32 × Mem) :=
  (fX1_findJoinable b  M).bind fun v1 =>
  fX1_fewestPeople_8L  b FU (0) (0) v1

def fX2_beginAnew_2B (k2 : Int32 → Mem → Option Mem) (b : Nat) (x1 : Int32) (M : Mem) : Option Mem :=
  if 144 ≤ x1 then
  (wF M b 3 (8)).bind fun M1 =>
    (wF M1 b 4 (8)).bind fun M2 =>
    (wF M2 b 5 (0)).bind fun M3 =>
    (wF M3 b 6 (0)).bind fun M4 =>
    (wF M4 b 7 (0)).bind fun M5 =>
    (wF M5 b 10 ((-9))).bind fun M6 =>
    some M6
  else
  (wZ M (b + 1) 144 (x1) (0)).bind fun M7 =>
    k2 (x1 + 1) M7
def fX2_beginAnew_2L  (b : Nat)  : Nat → Int32 → Mem → Option Mem
  | 0 => fun _ _ => none
  | n + 1 => fun x1 M => fX2_beginAnew_2B  (fX2_beginAnew_2L  b n) b x1 M
def fX2_beginAnew  (b : Nat) (M : Mem) : Option Mem :=
  fX2_beginAnew_2L  b FU (0) M

def fX2_hasRoomFor_28  (b : Nat) (M : Mem) : Option Int32 :=
  some (1)
def fX2_hasRoomFor_14  (b : Nat) (x1 : Int32) (M : Mem) : Option Int32 :=
  if x1 = 3 then
  if 10 ≤ (M.1 b 7) then
    some (0)
    else
    fX2_hasRoomFor_28  b  M
  else
  fX2_hasRoomFor_28  b  M
def fX2_hasRoomFor  (b : Nat) (x1 : Int32) (M : Mem) : Option Int32 :=
  if x1 = 2 then
  if 8 ≤ (M.1 b 6) then
    some (0)
    else
    fX2_hasRoomFor_14  b (x1) M
  else
  fX2_hasRoomFor_14  b (x1) M

def fX2_isCell  (b : Nat) (x1 : Int32) (x2 : Int32) (M : Mem) : Option Int32 :=
  if x1 < 0 then
  some (0)
  else
  if (M.1 b 3) ≤ x1 then
    some (0)
    else
    if x2 < 0 then
      some (0)
      else
      if (M.1 b 4) ≤ x2 then
        some (0)
        else
        some (1)

def fX2_addWall  (b : Nat) (x1 : Int32) (x2 : Int32) (M : Mem) : Option Mem :=
  (fX2_isCell b (x1) (x2) M).bind fun v1 =>
  if v1 = 0 then
  some M
  else
  (rI M (b + 1) 144 (((M.1 b 3) * x2) + x1)).bind fun v2 =>
    if v2 = 0 then
    (wZ M (b + 1) 144 (((M.1 b 3) * x2) + x1) (1)).bind fun M3 =>
      (wF M3 b 5 ((M3.1 b 5) + 1)).bind fun M4 =>
      some M4
    else
    some M

def fX2_addItem  (b : Nat) (a2 : Nat) (n2 : Nat) (x1 : Int32) (M : Mem) : Option Mem :=
  (fX2_hasRoomFor b (x1) M).bind fun v1 =>
  if v1 = 0 then
  some M
  else
  if x1 = 0 then
    (rI M a2 n2 (0)).bind fun v2 =>
      (wF M b 3 (v2)).bind fun M3 =>
      (rI M3 a2 n2 (1)).bind fun v4 =>
      (wF M3 b 4 (v4)).bind fun M5 =>
      some M5
    else
    if x1 = 1 then
      (rI M a2 n2 (0)).bind fun v6 =>
        (rI M a2 n2 (1)).bind fun v7 =>
        (fX2_addWall b (v6) (v7) M).bind fun v8 =>
        some v8
      else
      if x1 = 2 then
        (cpI M a2 n2 (0) (b + 2) 48 (6 * (M.1 b 6)) (6)).bind fun M9 =>
          (wF M9 b 6 ((M9.1 b 6) + 1)).bind fun M10 =>
          some M10
        else
        (cpI M a2 n2 (0) (b + 3) 50 (5 * (M.1 b 7)) (5)).bind fun M11 =>
          (wF M11 b 7 ((M11.1 b 7) + 1)).bind fun M12 =>
          some M12

def fX2_isWall  (b : Nat) (x1 : Int32) (x2 : Int32) (M : Mem) : Option Int32 :=
  (fX2_isCell b (x1) (x2) M).bind fun v1 =>
  if v1 = 0 then
  some (0)
  else
  (rI M (b + 1) 144 (((M.1 b 3) * x2) + x1)).bind fun v2 =>
    if v2 = 0 then
    some (0)
    else
    some (1)

def fX2_isGround  (b : Nat) (x1 : Int32) (x2 : Int32) (M : Mem) : Option Int32 :=
  (fX2_isCell b (x1) (x2) M).bind fun v1 =>
  if v1 = 0 then
  some (0)
  else
  (rI M (b + 1) 144 (((M.1 b 3) * x2) + x1)).bind fun v2 =>
    if v2 = 0 then
    some (1)
    else
    some (0)

def fX2_isPerson  (b : Nat) (x1 : Int32) (M : Mem) : Option Int32 :=
  (fX4_isBetween  (x1) (0) ((M.1 b 6) - 1)).bind fun v1 =>
  (gB (v1)).bind fun vb =>
  some vb

def fX2_isPicture  (b : Nat) (x1 : Int32) (M : Mem) : Option Int32 :=
  (fX4_isBetween  (x1) (0) ((M.1 b 7) - 1)).bind fun v1 =>
  (gB (v1)).bind fun vb =>
  some vb

def fX2_isSetOfPeople  (b : Nat) (x1 : Int32) (M : Mem) : Option Int32 :=
  (fX4_isBetween  (x1) (0) ((1 <<< ((M.1 b 6) &&& 31)) - 1)).bind fun v1 =>
  (gB (v1)).bind fun vb =>
  some vb

def fX2_ofPerson  (b : Nat) (x1 : Int32) (x2 : Int32) (M : Mem) : Option Int32 :=
  (rI M (b + 2) 48 ((6 * x1) + x2)).bind fun v1 =>
  some (v1)

def fX2_ofPicture  (b : Nat) (x1 : Int32) (x2 : Int32) (M : Mem) : Option Int32 :=
  (rI M (b + 3) 50 ((5 * x1) + x2)).bind fun v1 =>
  some (v1)

def fX2_cellOf  (b : Nat) (x1 : Int32) (x2 : Int32) (M : Mem) : Option Int32 :=
  (fX2_ofPerson b (x1) (3) M).bind fun v1 =>
  (fX2_ofPerson b (x1) (4) M).bind fun v2 =>
  (fX4_isBetween  (x2 - v1) (0) (v2)).bind fun v3 =>
  if v3 = 0 then
  some ((-9))
  else
  (fX2_ofPerson b (x1) (2) M).bind fun v4 =>
    (fX2_ofPerson b (x1) (0) M).bind fun v5 =>
    (rT tSX (v4)).bind fun v6 =>
    (fX2_ofPerson b (x1) (1) M).bind fun v7 =>
    (rT tSY (v4)).bind fun v8 =>
    (fX2_isCell b (v5 + ((x2 - v1) * v6)) (v7 + ((x2 - v1) * v8)) M).bind fun v9 =>
    if v9 = 0 then
    some ((-9))
    else
    (rI M (b + 1) 144 (((M.1 b 3) * (v7 + ((x2 - v1) * v8))) + (v5 + ((x2 - v1) * v6)))).bind fun v10 =>
      if v10 = 0 then
      some (((M.1 b 3) * (v7 + ((x2 - v1) * v8))) + (v5 + ((x2 - v1) * v6)))
      else
      some ((-9))

def fX2_standAt_65 (k19 : Int32 → Int32 → Mem → Option Mem) (b : Nat) (x1 : Int32) (x2 : Int32) (M : Mem) : Option Mem :=
  k19 (x1) (x2 + 1) M
def fX2_standAt_19B (k19 : Int32 → Int32 → Mem → Option Mem) (b : Nat) (x1 : Int32) (x2 : Int32) (M : Mem) : Option Mem :=
  if (M.1 b 6) ≤ x2 then
  (wF M b 10 (x1)).bind fun M1 =>
    some M1
  else
  (fX2_cellOf b (x2) (x1) M).bind fun v2 =>
    (wI M (b + 4) 8 (x2) (v2)).bind fun M3 =>
    (rI M3 (b + 4) 8 (x2)).bind fun v4 =>
    if v4 < 0 then
    fX2_standAt_65 k19 b (x1) (x2) M3
    else
    (rI M3 (b + 4) 8 (x2)).bind fun v5 =>
      (rI M3 (b + 5) 144 (v5)).bind fun v6 =>
      (wI M3 (b + 5) 144 (v5) (v6 ||| (1 <<< (x2 &&& 31)))).bind fun M7 =>
      fX2_standAt_65 k19 b (x1) (x2) M7
def fX2_standAt_19L  (b : Nat)  : Nat → Int32 → Int32 → Mem → Option Mem
  | 0 => fun _ _ _ => none
  | n + 1 => fun x1 x2 M => fX2_standAt_19B  (fX2_standAt_19L  b n) b x1 x2 M
def fX2_standAt  (b : Nat) (x1 : Int32) (M : Mem) : Option Mem :=
  if x1 = (M.1 b 10) then
  some M
  else
  (fJ7_fill_53178 (b + 5) 144 (0) M).bind fun v1 =>
    fX2_standAt_19L  b FU (x1) (0) v1

def fX2_peopleOn  (b : Nat) (x1 : Int32) (x2 : Int32) (x3 : Int32) (M : Mem) : Option (Int32 × Mem) :=
  (fX2_standAt b (x3) M).bind fun v1 =>
  (fX2_isCell b (x1) (x2) v1).bind fun v2 =>
  if v2 = 0 then
  some (0, v1)
  else
  (rI v1 (b + 5) 144 (((v1.1 b 3) * x2) + x1)).bind fun v3 =>
    some (v3, v1)

def fX2_peopleNear_38B (k12 : Int32 → Int32 → Int32 → Int32 → Int32 → Int32 → Mem → Option (Int32 × Mem)) (k38 : Int32 → Int32 → Int32 → Int32 → Int32 → Int32 → Int32 → Mem → Option (Int32 × Mem)) (b : Nat) (x1 : Int32) (x2 : Int32) (x3 : Int32) (x4 : Int32) (x5 : Int32) (x6 : Int32) (x7 : Int32) (M : Mem) : Option (Int32 × Mem) :=
  if (imin ((M.1 b 3) - 1) (x1 + x3)) < x7 then
  k12 (x1) (x2) (x3) (x4) (x5) (x6 + 1) M
  else
  (fX2_peopleOn b (x7) (x6) (x4) M).bind fun v1 =>
    k38 (x1) (x2) (x3) (x4) (x5 ||| v1.1) (x6) (x7 + 1) v1.2
def fX2_peopleNear_38L (k12 : Int32 → Int32 → Int32 → Int32 → Int32 → Int32 → Mem → Option (Int32 × Mem)) (b : Nat)  : Nat → Int32 → Int32 → Int32 → Int32 → Int32 → Int32 → Int32 → Mem → Option (Int32 × Mem)
  | 0 => fun _ _ _ _ _ _ _ _ => none
  | n + 1 => fun x1 x2 x3 x4 x5 x6 x7 M => fX2_peopleNear_38B k12 (fX2_peopleNear_38L k12 b n) b x1 x2 x3 x4 x5 x6 x7 M
def fX2_peopleNear_12B (k12 : Int32 → Int32 → Int32 → Int32 → Int32 → Int32 → Mem → Option (Int32 × Mem)) (b : Nat) (x1 : Int32) (x2 : Int32) (x3 : Int32) (x4 : Int32) (x5 : Int32) (x6 : Int32) (M : Mem) : Option (Int32 × Mem) :=
  if (imin ((M.1 b 4) - 1) (x2 + x3)) < x6 then
  some (x5, M)
  else
  fX2_peopleNear_38L k12 b FU (x1) (x2) (x3) (x4) (x5) (x6) (imax 0 (x1 - x3)) M
def fX2_peopleNear_12L  (b : Nat)  : Nat → Int32 → Int32 → Int32 → Int32 → Int32 → Int32 → Mem → Option (Int32 × Mem)
  | 0 => fun _ _ _ _ _ _ _ => none
  | n + 1 => fun x1 x2 x3 x4 x5 x6 M => fX2_peopleNear_12B  (fX2_peopleNear_12L  b n) b x1 x2 x3 x4 x5 x6 M
def fX2_peopleNear  (b : Nat) (x1 : Int32) (x2 : Int32) (x3 : Int32) (x4 : Int32) (M : Mem) : Option (Int32 × Mem) :=
  fX2_peopleNear_12L  b FU (x1) (x2) (x3) (x4) (0) (imax 0 (x2 - x3)) M

def fX2_goneX  (x0 : Int32) (x1 : Int32) (x2 : Int32) (M : Mem) : Option Int32 :=
  (rT tSX (x0)).bind fun v1 =>
  (rT tSX ((x0 + 1) - (x0 + 1) / 4 * 4)).bind fun v2 =>
  some ((x1 * v1) + (x2 * v2))

def fX2_goneY  (x0 : Int32) (x1 : Int32) (x2 : Int32) (M : Mem) : Option Int32 :=
  (rT tSY (x0)).bind fun v1 =>
  (rT tSY ((x0 + 1) - (x0 + 1) / 4 * 4)).bind fun v2 =>
  some ((x1 * v1) + (x2 * v2))

def fX2_stateOfCell_102 (k11 : Int32 → Int32 → Int32 → Int32 → Int32 → Int32 → Option Int32) (b : Nat) (x1 : Int32) (x2 : Int32) (x3 : Int32) (x4 : Int32) (x5 : Int32) (x6 : Int32) (M : Mem) : Option Int32 :=
  k11 (x1) (x2) (x3) (x4) (x5) (x6 + 1)
def fX2_stateOfCell_11B (k11 : Int32 → Int32 → Int32 → Int32 → Int32 → Int32 → Option Int32) (b : Nat) (x1 : Int32) (x2 : Int32) (x3 : Int32) (x4 : Int32) (x5 : Int32) (x6 : Int32) (M : Mem) : Option Int32 :=
  if x4 ≤ x6 then
  some (1)
  else
  (oD (x5 * x6) (x4)).bind fun v1 =>
    (fX2_goneX  (x3) (x6) (v1) M).bind fun v2 =>
    (fX2_goneY  (x3) (x6) (v1) M).bind fun v3 =>
    (fX2_isCell b (x1 + v2) (x2 + v3) M).bind fun v4 =>
    if v4 = 0 then
    fX2_stateOfCell_102 k11 b (x1) (x2) (x3) (x4) (x5) (x6) M
    else
    (rI M (b + 1) 144 (((M.1 b 3) * (x2 + v3)) + (x1 + v2))).bind fun v5 =>
      if v5 = 0 then
      (rI M (b + 5) 144 (((M.1 b 3) * (x2 + v3)) + (x1 + v2))).bind fun v6 =>
        if v6 = 0 then
        fX2_stateOfCell_102 k11 b (x1) (x2) (x3) (x4) (x5) (x6) M
        else
        some (3)
      else
      some (2)
def fX2_stateOfCell_11L  (b : Nat) (M : Mem) : Nat → Int32 → Int32 → Int32 → Int32 → Int32 → Int32 → Option Int32
  | 0 => fun _ _ _ _ _ _ => none
  | n + 1 => fun x1 x2 x3 x4 x5 x6 => fX2_stateOfCell_11B  (fX2_stateOfCell_11L  b M n) b x1 x2 x3 x4 x5 x6 M
def fX2_stateOfCell  (b : Nat) (x1 : Int32) (x2 : Int32) (x3 : Int32) (x4 : Int32) (x5 : Int32) (M : Mem) : Option Int32 :=
  if 1 ≤ x4 then
  fX2_stateOfCell_11L  b M FU (x1) (x2) (x3) (x4) (x5) (1)
  else
  some (0)

def fX2_stateOf  (b : Nat) (x1 : Int32) (x2 : Int32) (x3 : Int32) (x4 : Int32) (x5 : Int32) (M : Mem) : Option Int32 :=
  (rI M (b + 4) 8 (x1)).bind fun v1 =>
  if v1 < 0 then
  some (0)
  else
  if 1 ≤ (M.1 b 3) then
    (oR (v1) (M.1 b 3)).bind fun v2 =>
      (oD (v1) (M.1 b 3)).bind fun v3 =>
      (rT tSX (x4)).bind fun v4 =>
      (rT tSY (x4)).bind fun v5 =>
      (rT tSX ((x4 + 1) - (x4 + 1) / 4 * 4)).bind fun v6 =>
      (rT tSY ((x4 + 1) - (x4 + 1) / 4 * 4)).bind fun v7 =>
      if (((v2 - x2) * v4) + ((v3 - x3) * v5)) < 1 then
      some (0)
      else
      if x5 < (((v2 - x2) * v4) + ((v3 - x3) * v5)) then
        some (0)
        else
        if (iabs (((v2 - x2) * v6) + ((v3 - x3) * v7))) ≤ ((((v2 - x2) * v4) + ((v3 - x3) * v5)) / 2) then
          (fX2_stateOfCell b (x2) (x3) (x4) (((v2 - x2) * v4) + ((v3 - x3) * v5)) (((v2 - x2) * v6) + ((v3 - x3) * v7)) M).bind fun v8 =>
            some (v8)
          else
          some (0)
    else
    some (0)

def fX2_shownFrom_45 (k12 : Int32 → Int32 → Int32 → Int32 → Int32 → Int32 → Mem → Option (Int32 × Mem)) (b : Nat) (x1 : Int32) (x2 : Int32) (x3 : Int32) (x4 : Int32) (x6 : Int32) (x7 : Int32) (M : Mem) : Option (Int32 × Mem) :=
  k12 (x1) (x2) (x3) (x4) (x6) (x7 + 1) M
def fX2_shownFrom_12B (k12 : Int32 → Int32 → Int32 → Int32 → Int32 → Int32 → Mem → Option (Int32 × Mem)) (b : Nat) (x1 : Int32) (x2 : Int32) (x3 : Int32) (x4 : Int32) (x6 : Int32) (x7 : Int32) (M : Mem) : Option (Int32 × Mem) :=
  if (M.1 b 6) ≤ x7 then
  some (x6, M)
  else
  (fX2_stateOf b (x7) (x1) (x2) (x3) (x4) M).bind fun v1 =>
    if v1 = 1 then
    fX2_shownFrom_45 k12 b (x1) (x2) (x3) (x4) (x6 ||| (1 <<< (x7 &&& 31))) (x7) M
    else
    fX2_shownFrom_45 k12 b (x1) (x2) (x3) (x4) (x6) (x7) M
def fX2_shownFrom_12L  (b : Nat)  : Nat → Int32 → Int32 → Int32 → Int32 → Int32 → Int32 → Mem → Option (Int32 × Mem)
  | 0 => fun _ _ _ _ _ _ _ => none
  | n + 1 => fun x1 x2 x3 x4 x6 x7 M => fX2_shownFrom_12B  (fX2_shownFrom_12L  b n) b x1 x2 x3 x4 x6 x7 M
def fX2_shownFrom  (b : Nat) (x1 : Int32) (x2 : Int32) (x3 : Int32) (x4 : Int32) (x5 : Int32) (M : Mem) : Option (Int32 × Mem) :=
  (fX2_standAt b (x5) M).bind fun v1 =>
  fX2_shownFrom_12L  b FU (x1) (x2) (x3) (x4) (0) (0) v1

def fX2_showAll_2B (k2 : Int32 → Int32 → Mem → Option Mem) (b : Nat) (a2 : Nat) (n2 : Nat) (x1 : Int32) (x3 : Int32) (M : Mem) : Option Mem :=
  if (M.1 b 7) ≤ x3 then
  some M
  else
  (fX2_ofPicture b (x3) (3) M).bind fun v1 =>
    (fX2_ofPicture b (x3) (0) M).bind fun v2 =>
    (fX2_ofPicture b (x3) (1) M).bind fun v3 =>
    (fX2_ofPicture b (x3) (2) M).bind fun v4 =>
    (fX2_ofPicture b (x3) (4) M).bind fun v5 =>
    (fX2_shownFrom b (v2) (v3) (v4) (imin x1 v1) (v5) M).bind fun v6 =>
    (wI v6.2 a2 n2 (x3) (v6.1)).bind fun M7 =>
    k2 (x1) (x3 + 1) M7
def fX2_showAll_2L  (b : Nat) (a2 : Nat) (n2 : Nat)  : Nat → Int32 → Int32 → Mem → Option Mem
  | 0 => fun _ _ _ => none
  | n + 1 => fun x1 x3 M => fX2_showAll_2B  (fX2_showAll_2L  b a2 n2 n) b a2 n2 x1 x3 M
def fX2_showAll  (b : Nat) (a2 : Nat) (n2 : Nat) (x1 : Int32) (M : Mem) : Option Mem :=
  fX2_showAll_2L  b a2 n2 FU (x1) (0) M

def fX2_stateInPicture  (b : Nat) (x1 : Int32) (x2 : Int32) (M : Mem) : Option (Int32 × Mem) :=
  (fX2_ofPicture b (x1) (4) M).bind fun v1 =>
  (fX2_standAt b (v1) M).bind fun v2 =>
  (fX2_ofPicture b (x1) (0) v2).bind fun v3 =>
  (fX2_ofPicture b (x1) (1) v2).bind fun v4 =>
  (fX2_ofPicture b (x1) (2) v2).bind fun v5 =>
  (fX2_ofPicture b (x1) (3) v2).bind fun v6 =>
  (fX2_stateOf b (x2) (v3) (v4) (v5) (v6) v2).bind fun v7 =>
  some (v7, v2)

def fX2_isPlaceOf  (b : Nat) (x1 : Int32) (x2 : Int32) (x3 : Int32) (x4 : Int32) (M : Mem) : Option (Int32 × Mem) :=
  if (M.1 b 3) < 1 then
  some (0, M)
  else
  (rI M (b + 1) 144 (x1 / 4)).bind fun v1 =>
    if v1 = 0 then
    (oR (x1 / 4) (M.1 b 3)).bind fun v2 =>
      (oD (x1 / 4) (M.1 b 3)).bind fun v3 =>
      (fX2_shownFrom b (v2) (v3) (x1 - x1 / 4 * 4) (x3) (x4) M).bind fun v4 =>
      if v4.1 = x2 then
      some (1, v4.2)
      else
      some (0, v4.2)
    else
    some (0, M)

def fX2_countPlacesOf_37 (k6 : Int32 → Int32 → Int32 → Int32 → Int32 → Mem → Option (Int32 × Mem)) (b : Nat) (x1 : Int32) (x2 : Int32) (x3 : Int32) (x4 : Int32) (x5 : Int32) (M : Mem) : Option (Int32 × Mem) :=
  k6 (x1) (x2) (x3) (x4) (x5 + 1) M
def fX2_countPlacesOf_6B (k6 : Int32 → Int32 → Int32 → Int32 → Int32 → Mem → Option (Int32 × Mem)) (b : Nat) (x1 : Int32) (x2 : Int32) (x3 : Int32) (x4 : Int32) (x5 : Int32) (M : Mem) : Option (Int32 × Mem) :=
  if ((4 * (M.1 b 3)) * (M.1 b 4)) ≤ x5 then
  some (x4, M)
  else
  (fX2_isPlaceOf b (x5) (x1) (x2) (x3) M).bind fun v1 =>
    if v1.1 = 0 then
    fX2_countPlacesOf_37 k6 b (x1) (x2) (x3) (x4) (x5) v1.2
    else
    fX2_countPlacesOf_37 k6 b (x1) (x2) (x3) (x4 + 1) (x5) v1.2
def fX2_countPlacesOf_6L  (b : Nat)  : Nat → Int32 → Int32 → Int32 → Int32 → Int32 → Mem → Option (Int32 × Mem)
  | 0 => fun _ _ _ _ _ _ => none
  | n + 1 => fun x1 x2 x3 x4 x5 M => fX2_countPlacesOf_6B  (fX2_countPlacesOf_6L  b n) b x1 x2 x3 x4 x5 M
def fX2_countPlacesOf  (b : Nat) (x1 : Int32) (x2 : Int32) (x3 : Int32) (M : Mem) : Option (Int32 × Mem) :=
  fX2_countPlacesOf_6L  b FU (x1) (x2) (x3) (0) (0) M

def fX2_firstPlaceOf_3B (k3 : Int32 → Int32 → Int32 → Int32 → Mem → Option (Int32 × Mem)) (b : Nat) (x1 : Int32) (x2 : Int32) (x3 : Int32) (x4 : Int32) (M : Mem) : Option (Int32 × Mem) :=
  if ((4 * (M.1 b 3)) * (M.1 b 4)) ≤ x4 then
  some ((-9), M)
  else
  (fX2_isPlaceOf b (x4) (x1) (x2) (x3) M).bind fun v1 =>
    if v1.1 = 0 then
    k3 (x1) (x2) (x3) (x4 + 1) v1.2
    else
    some (x4, v1.2)
def fX2_firstPlaceOf_3L  (b : Nat)  : Nat → Int32 → Int32 → Int32 → Int32 → Mem → Option (Int32 × Mem)
  | 0 => fun _ _ _ _ _ => none
  | n + 1 => fun x1 x2 x3 x4 M => fX2_firstPlaceOf_3B  (fX2_firstPlaceOf_3L  b n) b x1 x2 x3 x4 M
def fX2_firstPlaceOf  (b : Nat) (x1 : Int32) (x2 : Int32) (x3 : Int32) (M : Mem) : Option (Int32 × Mem) :=
  fX2_firstPlaceOf_3L  b FU (x1) (x2) (x3) (0) M

def fX2_isEmptyGround  (b : Nat) (x1 : Int32) (x2 : Int32) (M : Mem) : Option Int32 :=
  (fX2_isGround b (x1) (x2) M).bind fun v1 =>
  if v1 = 0 then
  some (0)
  else
  (rI M (b + 5) 144 (((M.1 b 3) * x2) + x1)).bind fun v2 =>
    if v2 = 0 then
    some (1)
    else
    some (0)

def fX2_groundOf_163 (k42 : Int32 → Int32 → Int32 → Int32 → Int32 → Int64 → Int32 → Int32 → Mem → Option (Int64 × Mem)) (k60 : Int32 → Int32 → Int32 → Int32 → Int32 → Int64 → Int32 → Int32 → Int32 → Mem → Option (Int64 × Mem)) (b : Nat) (x1 : Int32) (x2 : Int32) (x3 : Int32) (x4 : Int32) (x5 : Int32) (x6 : Int64) (x8 : Int32) (x9 : Int32) (x10 : Int32) (M : Mem) : Option (Int64 × Mem) :=
  k60 (x1) (x2) (x3) (x4) (x5) (x6) (x8 + 1) (x9) (x10 + 1) M
def fX2_groundOf_154 (k42 : Int32 → Int32 → Int32 → Int32 → Int32 → Int64 → Int32 → Int32 → Mem → Option (Int64 × Mem)) (k60 : Int32 → Int32 → Int32 → Int32 → Int32 → Int64 → Int32 → Int32 → Int32 → Mem → Option (Int64 × Mem)) (b : Nat) (x1 : Int32) (x2 : Int32) (x3 : Int32) (x4 : Int32) (x5 : Int32) (x6 : Int64) (x8 : Int32) (x9 : Int32) (x10 : Int32) (M : Mem) : Option (Int64 × Mem) :=
  fX2_groundOf_163 k42 k60 b (x1) (x2) (x3) (x4) (x5) (x6 ||| (1 <<< (x8.toInt64 &&& 63))) (x8) (x9) (x10) M
def fX2_groundOf_129 (k42 : Int32 → Int32 → Int32 → Int32 → Int32 → Int64 → Int32 → Int32 → Mem → Option (Int64 × Mem)) (k60 : Int32 → Int32 → Int32 → Int32 → Int32 → Int64 → Int32 → Int32 → Int32 → Mem → Option (Int64 × Mem)) (b : Nat) (x1 : Int32) (x2 : Int32) (x3 : Int32) (x4 : Int32) (x5 : Int32) (x6 : Int64) (x8 : Int32) (x9 : Int32) (x10 : Int32) (x11 : Int32) (x12 : Int32) (s0 : Int32) (M : Mem) : Option (Int64 × Mem) :=
  if x2 = 0 then
  (fX2_isGround b (x11) (x12) M).bind fun v1 =>
    if v1 = 0 then
    fX2_groundOf_163 k42 k60 b (x1) (x2) (x3) (x4) (x5) (x6) (x8) (x9) (x10) M
    else
    fX2_groundOf_154 k42 k60 b (x1) (x2) (x3) (x4) (x5) (x6) (x8) (x9) (x10) M
  else
  if s0 = 0 then
    fX2_groundOf_163 k42 k60 b (x1) (x2) (x3) (x4) (x5) (x6) (x8) (x9) (x10) M
    else
    fX2_groundOf_154 k42 k60 b (x1) (x2) (x3) (x4) (x5) (x6) (x8) (x9) (x10) M
def fX2_groundOf_128 (k42 : Int32 → Int32 → Int32 → Int32 → Int32 → Int64 → Int32 → Int32 → Mem → Option (Int64 × Mem)) (k60 : Int32 → Int32 → Int32 → Int32 → Int32 → Int64 → Int32 → Int32 → Int32 → Mem → Option (Int64 × Mem)) (b : Nat) (x1 : Int32) (x2 : Int32) (x3 : Int32) (x4 : Int32) (x5 : Int32) (x6 : Int64) (x8 : Int32) (x9 : Int32) (x10 : Int32) (x11 : Int32) (x12 : Int32) (M : Mem) : Option (Int64 × Mem) :=
  fX2_groundOf_129 k42 k60 b (x1) (x2) (x3) (x4) (x5) (x6) (x8) (x9) (x10) (x11) (x12) (0) M
def fX2_groundOf_60B (k42 : Int32 → Int32 → Int32 → Int32 → Int32 → Int64 → Int32 → Int32 → Mem → Option (Int64 × Mem)) (k60 : Int32 → Int32 → Int32 → Int32 → Int32 → Int64 → Int32 → Int32 → Int32 → Mem → Option (Int64 × Mem)) (b : Nat) (x1 : Int32) (x2 : Int32) (x3 : Int32) (x4 : Int32) (x5 : Int32) (x6 : Int64) (x8 : Int32) (x9 : Int32) (x10 : Int32) (M : Mem) : Option (Int64 × Mem) :=
  if (x9 / 2) < x10 then
  k42 (x1) (x2) (x3) (x4) (x5) (x6) (x8) (x9 + 1) M
  else
  (fX2_goneX  (x5) (x9) (x10) M).bind fun v1 =>
    (fX2_goneY  (x5) (x9) (x10) M).bind fun v2 =>
    (fX2_isEmptyGround b (x3 + v1) (x4 + v2) M).bind fun v3 =>
    if v3 = 0 then
    fX2_groundOf_128 k42 k60 b (x1) (x2) (x3) (x4) (x5) (x6) (x8) (x9) (x10) (x3 + v1) (x4 + v2) M
    else
    (fX2_stateOfCell b (x3) (x4) (x5) (x9) (x10) M).bind fun v4 =>
      if v4 = 1 then
      fX2_groundOf_129 k42 k60 b (x1) (x2) (x3) (x4) (x5) (x6) (x8) (x9) (x10) (x3 + v1) (x4 + v2) (1) M
      else
      fX2_groundOf_128 k42 k60 b (x1) (x2) (x3) (x4) (x5) (x6) (x8) (x9) (x10) (x3 + v1) (x4 + v2) M
def fX2_groundOf_60L (k42 : Int32 → Int32 → Int32 → Int32 → Int32 → Int64 → Int32 → Int32 → Mem → Option (Int64 × Mem)) (b : Nat)  : Nat → Int32 → Int32 → Int32 → Int32 → Int32 → Int64 → Int32 → Int32 → Int32 → Mem → Option (Int64 × Mem)
  | 0 => fun _ _ _ _ _ _ _ _ _ _ => none
  | n + 1 => fun x1 x2 x3 x4 x5 x6 x8 x9 x10 M => fX2_groundOf_60B k42 (fX2_groundOf_60L k42 b n) b x1 x2 x3 x4 x5 x6 x8 x9 x10 M
def fX2_groundOf_42B (k42 : Int32 → Int32 → Int32 → Int32 → Int32 → Int64 → Int32 → Int32 → Mem → Option (Int64 × Mem)) (b : Nat) (x1 : Int32) (x2 : Int32) (x3 : Int32) (x4 : Int32) (x5 : Int32) (x6 : Int64) (x8 : Int32) (x9 : Int32) (M : Mem) : Option (Int64 × Mem) :=
  (fX2_ofPicture b (x1) (3) M).bind fun v1 =>
  if v1 < x9 then
  some (x6, M)
  else
  fX2_groundOf_60L k42 b FU (x1) (x2) (x3) (x4) (x5) (x6) (x8) (x9) (-(x9 / 2)) M
def fX2_groundOf_42L  (b : Nat)  : Nat → Int32 → Int32 → Int32 → Int32 → Int32 → Int64 → Int32 → Int32 → Mem → Option (Int64 × Mem)
  | 0 => fun _ _ _ _ _ _ _ _ _ => none
  | n + 1 => fun x1 x2 x3 x4 x5 x6 x8 x9 M => fX2_groundOf_42B  (fX2_groundOf_42L  b n) b x1 x2 x3 x4 x5 x6 x8 x9 M
def fX2_groundOf  (b : Nat) (x1 : Int32) (x2 : Int32) (M : Mem) : Option (Int64 × Mem) :=
  (fX2_ofPicture b (x1) (0) M).bind fun v1 =>
  (fX2_ofPicture b (x1) (1) M).bind fun v2 =>
  (fX2_ofPicture b (x1) (2) M).bind fun v3 =>
  (fX2_ofPicture b (x1) (4) M).bind fun v4 =>
  (fX2_standAt b (v4) M).bind fun v5 =>
  fX2_groundOf_42L  b FU (x1) (x2) (v1) (v2) (v3) (0) (0) (1) v5

def fX2_haveOneView_2B (k2 : Int32 → Int32 → Int32 → Option Int32) (b : Nat) (x1 : Int32) (x2 : Int32) (x3 : Int32) (M : Mem) : Option Int32 :=
  if 3 < x3 then
  some (1)
  else
  (fX2_ofPicture b (x1) (x3) M).bind fun v1 =>
    (fX2_ofPicture b (x2) (x3) M).bind fun v2 =>
    if v1 = v2 then
    k2 (x1) (x2) (x3 + 1)
    else
    some (0)
def fX2_haveOneView_2L  (b : Nat) (M : Mem) : Nat → Int32 → Int32 → Int32 → Option Int32
  | 0 => fun _ _ _ => none
  | n + 1 => fun x1 x2 x3 => fX2_haveOneView_2B  (fX2_haveOneView_2L  b M n) b x1 x2 x3 M
def fX2_haveOneView  (b : Nat) (x1 : Int32) (x2 : Int32) (M : Mem) : Option Int32 :=
  fX2_haveOneView_2L  b M FU (x1) (x2) (0)

def fX2_findEmpties_39 (k4 : Int32 → Int32 → Int32 → Mem → Option (Int32 × Mem)) (b : Nat) (x1 : Int32) (x2 : Int32) (x3 : Int32) (M : Mem) : Option (Int32 × Mem) :=
  k4 (x1) (x2) (x3 + 1) M
def fX2_findEmpties_4B (k4 : Int32 → Int32 → Int32 → Mem → Option (Int32 × Mem)) (b : Nat) (x1 : Int32) (x2 : Int32) (x3 : Int32) (M : Mem) : Option (Int32 × Mem) :=
  if (M.1 b 7) ≤ x3 then
  some (x2, M)
  else
  (fX2_haveOneView b (x1) (x3) M).bind fun v1 =>
    if v1 = 0 then
    fX2_findEmpties_39 k4 b (x1) (x2) (x3) M
    else
    (fX2_groundOf b (x3) (1) M).bind fun v2 =>
      (wJ v2.2 (b + 8) 10 (x3) (v2.1)).bind fun M3 =>
      fX2_findEmpties_39 k4 b (x1) (x2 ||| (1 <<< (x3 &&& 31))) (x3) M3
def fX2_findEmpties_4L  (b : Nat)  : Nat → Int32 → Int32 → Int32 → Mem → Option (Int32 × Mem)
  | 0 => fun _ _ _ _ => none
  | n + 1 => fun x1 x2 x3 M => fX2_findEmpties_4B  (fX2_findEmpties_4L  b n) b x1 x2 x3 M
def fX2_findEmpties  (b : Nat) (x1 : Int32) (M : Mem) : Option (Int32 × Mem) :=
  fX2_findEmpties_4L  b FU (x1) (0) (0) M

def fX2_emptyInSomeOf_33 (k5 : Int32 → Int64 → Int32 → Option Int64) (b : Nat) (x1 : Int32) (x2 : Int64) (x4 : Int32) (M : Mem) : Option Int64 :=
  k5 (x1) (x2) (x4 + 1)
def fX2_emptyInSomeOf_5B (k5 : Int32 → Int64 → Int32 → Option Int64) (b : Nat) (x1 : Int32) (x2 : Int64) (x4 : Int32) (M : Mem) : Option Int64 :=
  if (M.1 b 7) ≤ x4 then
  some (x2)
  else
  if ((x1 >>> (x4 &&& 31)) &&& 1) = 0 then
    fX2_emptyInSomeOf_33 k5 b (x1) (x2) (x4) M
    else
    (rJ M (b + 8) 10 (x4)).bind fun v1 =>
      fX2_emptyInSomeOf_33 k5 b (x1) (x2 ||| v1) (x4) M
def fX2_emptyInSomeOf_5L  (b : Nat) (M : Mem) : Nat → Int32 → Int64 → Int32 → Option Int64
  | 0 => fun _ _ _ => none
  | n + 1 => fun x1 x2 x4 => fX2_emptyInSomeOf_5B  (fX2_emptyInSomeOf_5L  b M n) b x1 x2 x4 M
def fX2_emptyInSomeOf  (b : Nat) (x1 : Int32) (M : Mem) : Option Int64 :=
  fX2_emptyInSomeOf_5L  b M FU (x1) (0) (0)

def fX2_fewestForEmpty_100 (k20 : Int32 → Int64 → Int32 → Int32 → Mem → Option (Int32 × Mem)) (b : Nat) (x2 : Int32) (x3 : Int64) (x5 : Int32) (x6 : Int32) (M : Mem) : Option (Int32 × Mem) :=
  k20 (x2) (x3) (x5) (x6 + 1) M
def fX2_fewestForEmpty_67 (k20 : Int32 → Int64 → Int32 → Int32 → Mem → Option (Int32 × Mem)) (b : Nat) (x2 : Int32) (x3 : Int64) (x5 : Int32) (x6 : Int32) (x7 : Int32) (s0 : Int32) (M : Mem) : Option (Int32 × Mem) :=
  if x7 = 0 then
  fX2_fewestForEmpty_100 k20 b (x2) (x3) (x5) (x6) M
  else
  if s0 = 0 then
    fX2_fewestForEmpty_100 k20 b (x2) (x3) (x5) (x6) M
    else
    (fX2_emptyInSomeOf b (x6) M).bind fun v1 =>
      if (lg_cmp (x3 &&& (v1 ^^^ ((-1)))) 0) = 0 then
      fX2_fewestForEmpty_100 k20 b (x2) (x3) (x6) (x6) M
      else
      fX2_fewestForEmpty_100 k20 b (x2) (x3) (x5) (x6) M
def fX2_fewestForEmpty_62 (k20 : Int32 → Int64 → Int32 → Int32 → Mem → Option (Int32 × Mem)) (b : Nat) (x2 : Int32) (x3 : Int64) (x5 : Int32) (x6 : Int32) (x7 : Int32) (M : Mem) : Option (Int32 × Mem) :=
  fX2_fewestForEmpty_67 k20 b (x2) (x3) (x5) (x6) (x7) (1) M
def fX2_fewestForEmpty_40 (k20 : Int32 → Int64 → Int32 → Int32 → Mem → Option (Int32 × Mem)) (b : Nat) (x2 : Int32) (x3 : Int64) (x5 : Int32) (x6 : Int32) (s0 : Int32) (M : Mem) : Option (Int32 × Mem) :=
  if x5 = ((-9)) then
  fX2_fewestForEmpty_62 k20 b (x2) (x3) (x5) (x6) (s0) M
  else
  (fJ6_bitCount_0f7a4  (x6)).bind fun v1 =>
    (fJ6_bitCount_0f7a4  (x5)).bind fun v2 =>
    if v2 ≤ v1 then
    fX2_fewestForEmpty_67 k20 b (x2) (x3) (x5) (x6) (s0) (0) M
    else
    fX2_fewestForEmpty_62 k20 b (x2) (x3) (x5) (x6) (s0) M
def fX2_fewestForEmpty_20B (k20 : Int32 → Int64 → Int32 → Int32 → Mem → Option (Int32 × Mem)) (b : Nat) (x2 : Int32) (x3 : Int64) (x5 : Int32) (x6 : Int32) (M : Mem) : Option (Int32 × Mem) :=
  if x2 < x6 then
  some (x5, M)
  else
  if (x6 &&& (x2 ^^^ ((-1)))) = 0 then
    fX2_fewestForEmpty_40 k20 b (x2) (x3) (x5) (x6) (1) M
    else
    fX2_fewestForEmpty_40 k20 b (x2) (x3) (x5) (x6) (0) M
def fX2_fewestForEmpty_20L  (b : Nat)  : Nat → Int32 → Int64 → Int32 → Int32 → Mem → Option (Int32 × Mem)
  | 0 => fun _ _ _ _ _ => none
  | n + 1 => fun x2 x3 x5 x6 M => fX2_fewestForEmpty_20B  (fX2_fewestForEmpty_20L  b n) b x2 x3 x5 x6 M
def fX2_fewestForEmpty  (b : Nat) (x1 : Int32) (M : Mem) : Option (Int32 × Mem) :=
  (fX2_findEmpties b (x1) M).bind fun v1 =>
  (fX2_groundOf b (x1) (0) v1.2).bind fun v2 =>
  fX2_fewestForEmpty_20L  b FU (v1.1) (v2.1) ((-9)) (0) v2.2

def fJ13_bitCount_95d88  (x0 : Int64)  : Option Int32 :=
  some ((((((((((x0 - (((x0.toUInt64 >>> ((1 : Int32).toInt64.toUInt64 &&& Int64.toUInt64 63)).toInt64) &&& 6148914691236517205)) &&& 3689348814741910323) + ((((x0 - (((x0.toUInt64 >>> ((1 : Int32).toInt64.toUInt64 &&& Int64.toUInt64 63)).toInt64) &&& 6148914691236517205)).toUInt64 >>> ((2 : Int32).toInt64.toUInt64 &&& Int64.toUInt64 63)).toInt64) &&& 3689348814741910323)) + (((((x0 - (((x0.toUInt64 >>> ((1 : Int32).toInt64.toUInt64 &&& Int64.toUInt64 63)).toInt64) &&& 6148914691236517205)) &&& 3689348814741910323) + ((((x0 - (((x0.toUInt64 >>> ((1 : Int32).toInt64.toUInt64 &&& Int64.toUInt64 63)).toInt64) &&& 6148914691236517205)).toUInt64 >>> ((2 : Int32).toInt64.toUInt64 &&& Int64.toUInt64 63)).toInt64) &&& 3689348814741910323)).toUInt64 >>> ((4 : Int32).toInt64.toUInt64 &&& Int64.toUInt64 63)).toInt64)) &&& 1085102592571150095) + (((((((x0 - (((x0.toUInt64 >>> ((1 : Int32).toInt64.toUInt64 &&& Int64.toUInt64 63)).toInt64) &&& 6148914691236517205)) &&& 3689348814741910323) + ((((x0 - (((x0.toUInt64 >>> ((1 : Int32).toInt64.toUInt64 &&& Int64.toUInt64 63)).toInt64) &&& 6148914691236517205)).toUInt64 >>> ((2 : Int32).toInt64.toUInt64 &&& Int64.toUInt64 63)).toInt64) &&& 3689348814741910323)) + (((((x0 - (((x0.toUInt64 >>> ((1 : Int32).toInt64.toUInt64 &&& Int64.toUInt64 63)).toInt64) &&& 6148914691236517205)) &&& 3689348814741910323) + ((((x0 - (((x0.toUInt64 >>> ((1 : Int32).toInt64.toUInt64 &&& Int64.toUInt64 63)).toInt64) &&& 6148914691236517205)).toUInt64 >>> ((2 : Int32).toInt64.toUInt64 &&& Int64.toUInt64 63)).toInt64) &&& 3689348814741910323)).toUInt64 >>> ((4 : Int32).toInt64.toUInt64 &&& Int64.toUInt64 63)).toInt64)) &&& 1085102592571150095).toUInt64 >>> ((8 : Int32).toInt64.toUInt64 &&& Int64.toUInt64 63)).toInt64)) + ((((((((x0 - (((x0.toUInt64 >>> ((1 : Int32).toInt64.toUInt64 &&& Int64.toUInt64 63)).toInt64) &&& 6148914691236517205)) &&& 3689348814741910323) + ((((x0 - (((x0.toUInt64 >>> ((1 : Int32).toInt64.toUInt64 &&& Int64.toUInt64 63)).toInt64) &&& 6148914691236517205)).toUInt64 >>> ((2 : Int32).toInt64.toUInt64 &&& Int64.toUInt64 63)).toInt64) &&& 3689348814741910323)) + (((((x0 - (((x0.toUInt64 >>> ((1 : Int32).toInt64.toUInt64 &&& Int64.toUInt64 63)).toInt64) &&& 6148914691236517205)) &&& 3689348814741910323) + ((((x0 - (((x0.toUInt64 >>> ((1 : Int32).toInt64.toUInt64 &&& Int64.toUInt64 63)).toInt64) &&& 6148914691236517205)).toUInt64 >>> ((2 : Int32).toInt64.toUInt64 &&& Int64.toUInt64 63)).toInt64) &&& 3689348814741910323)).toUInt64 >>> ((4 : Int32).toInt64.toUInt64 &&& Int64.toUInt64 63)).toInt64)) &&& 1085102592571150095) + (((((((x0 - (((x0.toUInt64 >>> ((1 : Int32).toInt64.toUInt64 &&& Int64.toUInt64 63)).toInt64) &&& 6148914691236517205)) &&& 3689348814741910323) + ((((x0 - (((x0.toUInt64 >>> ((1 : Int32).toInt64.toUInt64 &&& Int64.toUInt64 63)).toInt64) &&& 6148914691236517205)).toUInt64 >>> ((2 : Int32).toInt64.toUInt64 &&& Int64.toUInt64 63)).toInt64) &&& 3689348814741910323)) + (((((x0 - (((x0.toUInt64 >>> ((1 : Int32).toInt64.toUInt64 &&& Int64.toUInt64 63)).toInt64) &&& 6148914691236517205)) &&& 3689348814741910323) + ((((x0 - (((x0.toUInt64 >>> ((1 : Int32).toInt64.toUInt64 &&& Int64.toUInt64 63)).toInt64) &&& 6148914691236517205)).toUInt64 >>> ((2 : Int32).toInt64.toUInt64 &&& Int64.toUInt64 63)).toInt64) &&& 3689348814741910323)).toUInt64 >>> ((4 : Int32).toInt64.toUInt64 &&& Int64.toUInt64 63)).toInt64)) &&& 1085102592571150095).toUInt64 >>> ((8 : Int32).toInt64.toUInt64 &&& Int64.toUInt64 63)).toInt64)).toUInt64 >>> ((16 : Int32).toInt64.toUInt64 &&& Int64.toUInt64 63)).toInt64)) + (((((((((x0 - (((x0.toUInt64 >>> ((1 : Int32).toInt64.toUInt64 &&& Int64.toUInt64 63)).toInt64) &&& 6148914691236517205)) &&& 3689348814741910323) + ((((x0 - (((x0.toUInt64 >>> ((1 : Int32).toInt64.toUInt64 &&& Int64.toUInt64 63)).toInt64) &&& 6148914691236517205)).toUInt64 >>> ((2 : Int32).toInt64.toUInt64 &&& Int64.toUInt64 63)).toInt64) &&& 3689348814741910323)) + (((((x0 - (((x0.toUInt64 >>> ((1 : Int32).toInt64.toUInt64 &&& Int64.toUInt64 63)).toInt64) &&& 6148914691236517205)) &&& 3689348814741910323) + ((((x0 - (((x0.toUInt64 >>> ((1 : Int32).toInt64.toUInt64 &&& Int64.toUInt64 63)).toInt64) &&& 6148914691236517205)).toUInt64 >>> ((2 : Int32).toInt64.toUInt64 &&& Int64.toUInt64 63)).toInt64) &&& 3689348814741910323)).toUInt64 >>> ((4 : Int32).toInt64.toUInt64 &&& Int64.toUInt64 63)).toInt64)) &&& 1085102592571150095) + (((((((x0 - (((x0.toUInt64 >>> ((1 : Int32).toInt64.toUInt64 &&& Int64.toUInt64 63)).toInt64) &&& 6148914691236517205)) &&& 3689348814741910323) + ((((x0 - (((x0.toUInt64 >>> ((1 : Int32).toInt64.toUInt64 &&& Int64.toUInt64 63)).toInt64) &&& 6148914691236517205)).toUInt64 >>> ((2 : Int32).toInt64.toUInt64 &&& Int64.toUInt64 63)).toInt64) &&& 3689348814741910323)) + (((((x0 - (((x0.toUInt64 >>> ((1 : Int32).toInt64.toUInt64 &&& Int64.toUInt64 63)).toInt64) &&& 6148914691236517205)) &&& 3689348814741910323) + ((((x0 - (((x0.toUInt64 >>> ((1 : Int32).toInt64.toUInt64 &&& Int64.toUInt64 63)).toInt64) &&& 6148914691236517205)).toUInt64 >>> ((2 : Int32).toInt64.toUInt64 &&& Int64.toUInt64 63)).toInt64) &&& 3689348814741910323)).toUInt64 >>> ((4 : Int32).toInt64.toUInt64 &&& Int64.toUInt64 63)).toInt64)) &&& 1085102592571150095).toUInt64 >>> ((8 : Int32).toInt64.toUInt64 &&& Int64.toUInt64 63)).toInt64)) + ((((((((x0 - (((x0.toUInt64 >>> ((1 : Int32).toInt64.toUInt64 &&& Int64.toUInt64 63)).toInt64) &&& 6148914691236517205)) &&& 3689348814741910323) + ((((x0 - (((x0.toUInt64 >>> ((1 : Int32).toInt64.toUInt64 &&& Int64.toUInt64 63)).toInt64) &&& 6148914691236517205)).toUInt64 >>> ((2 : Int32).toInt64.toUInt64 &&& Int64.toUInt64 63)).toInt64) &&& 3689348814741910323)) + (((((x0 - (((x0.toUInt64 >>> ((1 : Int32).toInt64.toUInt64 &&& Int64.toUInt64 63)).toInt64) &&& 6148914691236517205)) &&& 3689348814741910323) + ((((x0 - (((x0.toUInt64 >>> ((1 : Int32).toInt64.toUInt64 &&& Int64.toUInt64 63)).toInt64) &&& 6148914691236517205)).toUInt64 >>> ((2 : Int32).toInt64.toUInt64 &&& Int64.toUInt64 63)).toInt64) &&& 3689348814741910323)).toUInt64 >>> ((4 : Int32).toInt64.toUInt64 &&& Int64.toUInt64 63)).toInt64)) &&& 1085102592571150095) + (((((((x0 - (((x0.toUInt64 >>> ((1 : Int32).toInt64.toUInt64 &&& Int64.toUInt64 63)).toInt64) &&& 6148914691236517205)) &&& 3689348814741910323) + ((((x0 - (((x0.toUInt64 >>> ((1 : Int32).toInt64.toUInt64 &&& Int64.toUInt64 63)).toInt64) &&& 6148914691236517205)).toUInt64 >>> ((2 : Int32).toInt64.toUInt64 &&& Int64.toUInt64 63)).toInt64) &&& 3689348814741910323)) + (((((x0 - (((x0.toUInt64 >>> ((1 : Int32).toInt64.toUInt64 &&& Int64.toUInt64 63)).toInt64) &&& 6148914691236517205)) &&& 3689348814741910323) + ((((x0 - (((x0.toUInt64 >>> ((1 : Int32).toInt64.toUInt64 &&& Int64.toUInt64 63)).toInt64) &&& 6148914691236517205)).toUInt64 >>> ((2 : Int32).toInt64.toUInt64 &&& Int64.toUInt64 63)).toInt64) &&& 3689348814741910323)).toUInt64 >>> ((4 : Int32).toInt64.toUInt64 &&& Int64.toUInt64 63)).toInt64)) &&& 1085102592571150095).toUInt64 >>> ((8 : Int32).toInt64.toUInt64 &&& Int64.toUInt64 63)).toInt64)).toUInt64 >>> ((16 : Int32).toInt64.toUInt64 &&& Int64.toUInt64 63)).toInt64)).toUInt64 >>> ((32 : Int32).toInt64.toUInt64 &&& Int64.toUInt64 63)).toInt64)).toInt32) &&& 127)

def fX2_countNeverEmpty  (b : Nat) (x1 : Int32) (M : Mem) : Option (Int32 × Mem) :=
  (fX2_findEmpties b (x1) M).bind fun v1 =>
  (fX2_groundOf b (x1) (0) v1.2).bind fun v2 =>
  (fX2_emptyInSomeOf b (v1.1) v2.2).bind fun v3 =>
  (fJ13_bitCount_95d88  (v2.1 &&& (v3 ^^^ ((-1))))).bind fun v4 =>
  some (v4, v2.2)

def fX2_waitOf_25B (k25 : Int32 → Int32 → Int32 → Int32 → Int32 → Mem → Option (Int32 × Mem)) (b : Nat) (x1 : Int32) (x2 : Int32) (x3 : Int32) (x4 : Int32) (x5 : Int32) (M : Mem) : Option (Int32 × Mem) :=
  if 99 < x5 then
  some ((-9), M)
  else
  (fX2_ofPicture b (x1) (3) M).bind fun v1 =>
    (fX2_ofPicture b (x1) (4) M).bind fun v2 =>
    (fX2_shownFrom b (x2) (x3) (x4) (v1) (v2 + x5) M).bind fun v3 =>
    if v3.1 = 0 then
    some (x5, v3.2)
    else
    k25 (x1) (x2) (x3) (x4) (x5 + 1) v3.2
def fX2_waitOf_25L  (b : Nat)  : Nat → Int32 → Int32 → Int32 → Int32 → Int32 → Mem → Option (Int32 × Mem)
  | 0 => fun _ _ _ _ _ _ => none
  | n + 1 => fun x1 x2 x3 x4 x5 M => fX2_waitOf_25B  (fX2_waitOf_25L  b n) b x1 x2 x3 x4 x5 M
def fX2_waitOf  (b : Nat) (x1 : Int32) (M : Mem) : Option (Int32 × Mem) :=
  (fX2_ofPicture b (x1) (0) M).bind fun v1 =>
  (fX2_ofPicture b (x1) (1) M).bind fun v2 =>
  (fX2_ofPicture b (x1) (2) M).bind fun v3 =>
  fX2_waitOf_25L  b FU (x1) (v1) (v2) (v3) (0) M

def fX4_countShowing_24 (k5 : Int32 → Int32 → Int32 → Int32 → Option Int32) (a0 : Nat) (n0 : Nat) (x1 : Int32) (x2 : Int32) (x3 : Int32) (x4 : Int32) (M : Mem) : Option Int32 :=
  k5 (x1) (x2) (x3) (x4 + 1)
def fX4_countShowing_5B (k5 : Int32 → Int32 → Int32 → Int32 → Option Int32) (a0 : Nat) (n0 : Nat) (x1 : Int32) (x2 : Int32) (x3 : Int32) (x4 : Int32) (M : Mem) : Option Int32 :=
  if x1 ≤ x4 then
  some (x3)
  else
  (rI M a0 n0 (x4)).bind fun v1 =>
    if (v1 &&& x2) = x2 then
    fX4_countShowing_24 k5 a0 n0 (x1) (x2) (x3 + 1) (x4) M
    else
    fX4_countShowing_24 k5 a0 n0 (x1) (x2) (x3) (x4) M
def fX4_countShowing_5L  (a0 : Nat) (n0 : Nat) (M : Mem) : Nat → Int32 → Int32 → Int32 → Int32 → Option Int32
  | 0 => fun _ _ _ _ => none
  | n + 1 => fun x1 x2 x3 x4 => fX4_countShowing_5B  (fX4_countShowing_5L  a0 n0 M n) a0 n0 x1 x2 x3 x4 M
def fX4_countShowing  (a0 : Nat) (n0 : Nat) (x1 : Int32) (x2 : Int32) (M : Mem) : Option Int32 :=
  fX4_countShowing_5L  a0 n0 M FU (x1) (x2) (0) (0)

def fX2_mostOftenWith_56 (k8 : Int32 → Int32 → Int32 → Int32 → Option Int32) (b : Nat) (x1 : Int32) (x2 : Int32) (x3 : Int32) (x4 : Int32) (M : Mem) : Option Int32 :=
  k8 (x1) (x2) (x3) (x4 + 1)
def fX2_mostOftenWith_8B (k8 : Int32 → Int32 → Int32 → Int32 → Option Int32) (b : Nat) (x1 : Int32) (x2 : Int32) (x3 : Int32) (x4 : Int32) (M : Mem) : Option Int32 :=
  if (M.1 b 6) ≤ x4 then
  some (x3)
  else
  (fX4_countShowing (b + 6) 10 (M.1 b 7) ((1 <<< (x1 &&& 31)) ||| (1 <<< (x4 &&& 31))) M).bind fun v1 =>
    if x4 = x1 then
    fX2_mostOftenWith_56 k8 b (x1) (x2) (x3) (x4) M
    else
    if v1 ≤ x2 then
      fX2_mostOftenWith_56 k8 b (x1) (x2) (x3) (x4) M
      else
      fX2_mostOftenWith_56 k8 b (x1) (v1) (x4) (x4) M
def fX2_mostOftenWith_8L  (b : Nat) (M : Mem) : Nat → Int32 → Int32 → Int32 → Int32 → Option Int32
  | 0 => fun _ _ _ _ => none
  | n + 1 => fun x1 x2 x3 x4 => fX2_mostOftenWith_8B  (fX2_mostOftenWith_8L  b M n) b x1 x2 x3 x4 M
def fX2_mostOftenWith  (b : Nat) (x1 : Int32) (M : Mem) : Option Int32 :=
  fX2_mostOftenWith_8L  b M FU (x1) (0) ((-9)) (0)

def fX2_firstSecondOf_49 (k5 : Int32 → Int32 → Int32 → Option Int32) (b : Nat) (x1 : Int32) (x2 : Int32) (x3 : Int32) (M : Mem) : Option Int32 :=
  k5 (x1) (x2) (x3 + 1)
def fX2_firstSecondOf_46 (k5 : Int32 → Int32 → Int32 → Option Int32) (b : Nat) (x1 : Int32) (x3 : Int32) (x4 : Int32) (M : Mem) : Option Int32 :=
  fX2_firstSecondOf_49 k5 b (x1) (x4) (x3) M
def fX2_firstSecondOf_5B (k5 : Int32 → Int32 → Int32 → Option Int32) (b : Nat) (x1 : Int32) (x2 : Int32) (x3 : Int32) (M : Mem) : Option Int32 :=
  if (M.1 b 7) ≤ x3 then
  some (x2)
  else
  (fX2_ofPicture b (x3) (4) M).bind fun v1 =>
    (rI M (b + 6) 10 (x3)).bind fun v2 =>
    if ((v2 >>> (x1 &&& 31)) &&& 1) = 0 then
    fX2_firstSecondOf_49 k5 b (x1) (x2) (x3) M
    else
    if x2 = ((-9)) then
      fX2_firstSecondOf_46 k5 b (x1) (x3) (v1) M
      else
      if x2 ≤ v1 then
        fX2_firstSecondOf_49 k5 b (x1) (x2) (x3) M
        else
        fX2_firstSecondOf_46 k5 b (x1) (x3) (v1) M
def fX2_firstSecondOf_5L  (b : Nat) (M : Mem) : Nat → Int32 → Int32 → Int32 → Option Int32
  | 0 => fun _ _ _ => none
  | n + 1 => fun x1 x2 x3 => fX2_firstSecondOf_5B  (fX2_firstSecondOf_5L  b M n) b x1 x2 x3 M
def fX2_firstSecondOf  (b : Nat) (x1 : Int32) (M : Mem) : Option Int32 :=
  fX2_firstSecondOf_5L  b M FU (x1) ((-9)) (0)

def fX2_lastSecondOf_37 (k5 : Int32 → Int32 → Int32 → Option Int32) (b : Nat) (x1 : Int32) (x2 : Int32) (x3 : Int32) (M : Mem) : Option Int32 :=
  k5 (x1) (x2) (x3 + 1)
def fX2_lastSecondOf_5B (k5 : Int32 → Int32 → Int32 → Option Int32) (b : Nat) (x1 : Int32) (x2 : Int32) (x3 : Int32) (M : Mem) : Option Int32 :=
  if (M.1 b 7) ≤ x3 then
  some (x2)
  else
  (rI M (b + 6) 10 (x3)).bind fun v1 =>
    if ((v1 >>> (x1 &&& 31)) &&& 1) = 0 then
    fX2_lastSecondOf_37 k5 b (x1) (x2) (x3) M
    else
    (fX2_ofPicture b (x3) (4) M).bind fun v2 =>
      fX2_lastSecondOf_37 k5 b (x1) (imax x2 v2) (x3) M
def fX2_lastSecondOf_5L  (b : Nat) (M : Mem) : Nat → Int32 → Int32 → Int32 → Option Int32
  | 0 => fun _ _ _ => none
  | n + 1 => fun x1 x2 x3 => fX2_lastSecondOf_5B  (fX2_lastSecondOf_5L  b M n) b x1 x2 x3 M
def fX2_lastSecondOf  (b : Nat) (x1 : Int32) (M : Mem) : Option Int32 :=
  fX2_lastSecondOf_5L  b M FU (x1) ((-9)) (0)

def fX2_mostPicturesOfOne_13B (k13 : Int32 → Int32 → Mem → Option (Int32 × Mem)) (b : Nat) (x2 : Int32) (x3 : Int32) (M : Mem) : Option (Int32 × Mem) :=
  if (M.1 b 6) ≤ x3 then
  some (x2, M)
  else
  (fX4_countShowing (b + 7) 10 (M.1 b 7) (1 <<< (x3 &&& 31)) M).bind fun v1 =>
    k13 (imax x2 v1) (x3 + 1) M
def fX2_mostPicturesOfOne_13L  (b : Nat)  : Nat → Int32 → Int32 → Mem → Option (Int32 × Mem)
  | 0 => fun _ _ _ => none
  | n + 1 => fun x2 x3 M => fX2_mostPicturesOfOne_13B  (fX2_mostPicturesOfOne_13L  b n) b x2 x3 M
def fX2_mostPicturesOfOne  (b : Nat) (x1 : Int32) (M : Mem) : Option (Int32 × Mem) :=
  (fX2_showAll b (b + 7) 10 (x1) M).bind fun v1 =>
  fX2_mostPicturesOfOne_13L  b FU (0) (0) v1

def fX3_append_5B (k5 : Int64 → Int32 → Mem → Option (Int32 × Mem)) (x1 : Int64) (x4 : Int32) (M : Mem) : Option (Int32 × Mem) :=
  if x4 < 0 then
  some (M.1 1 2, M)
  else
  if 400 ≤ (M.1 1 2) then
    some (M.1 1 2, M)
    else
    (wB M 2 400 (M.1 1 2) (((x1 >>> ((8 * x4 : Int32).toInt64 &&& 63)).toInt32 : Int32).toInt8.toInt32)).bind fun M1 =>
      (wF M1 1 2 ((M1.1 1 2) + 1)).bind fun M2 =>
      k5 (x1) (x4 + (-1)) M2
def fX3_append_5L    : Nat → Int64 → Int32 → Mem → Option (Int32 × Mem)
  | 0 => fun _ _ _ => none
  | n + 1 => fun x1 x4 M => fX3_append_5B  (fX3_append_5L   n)  x1 x4 M
def fX3_append  (x1 : Int64) (x3 : Int32) (M : Mem) : Option (Int32 × Mem) :=
  fX3_append_5L   FU (x1) (x3 - 1) M

def fX3_takeNumber_124   (M : Mem) : Option Mem :=
  (wF M 1 4 (13)).bind fun M1 =>
  some M1
def fX3_takeNumber_109  (s0 : Int32) (M : Mem) : Option Mem :=
  if 99 < (M.1 1 6) then
  fX3_takeNumber_124    M
  else
  if s0 = 0 then
    (wF M 1 4 (12)).bind fun M1 =>
      some M1
    else
    fX3_takeNumber_124    M
def fX3_takeNumber_108   (M : Mem) : Option Mem :=
  fX3_takeNumber_109   (0) M
def fX3_takeNumber_77   (M : Mem) : Option Mem :=
  if ((M.1 1 3) - (M.1 1 5)) ≤ 1 then
  fX3_takeNumber_108    M
  else
  (rI M 2 400 (M.1 1 5)).bind fun v1 =>
    if v1 = 48 then
    fX3_takeNumber_109   (1) M
    else
    fX3_takeNumber_108    M
def fX3_takeNumber_5B (k5 : Mem → Option Mem)  (M : Mem) : Option Mem :=
  if (M.1 1 2) ≤ (M.1 1 3) then
  fX3_takeNumber_77    M
  else
  (rI M 2 400 (M.1 1 3)).bind fun v1 =>
    (fX4_isBetween  (v1) (48) (57)).bind fun v2 =>
    if v2 = 0 then
    fX3_takeNumber_77    M
    else
    (rI M 2 400 (M.1 1 3)).bind fun v3 =>
      (wF M 1 6 (imin (((10 * (M.1 1 6)) + v3) - 48) 100)).bind fun M4 =>
      (wF M4 1 3 ((M4.1 1 3) + 1)).bind fun M5 =>
      k5  M5
def fX3_takeNumber_5L    : Nat → Mem → Option Mem
  | 0 => fun _ => none
  | n + 1 => fun M => fX3_takeNumber_5B  (fX3_takeNumber_5L   n)   M
def fX3_takeNumber   (M : Mem) : Option Mem :=
  (wF M 1 6 (0)).bind fun M1 =>
  fX3_takeNumber_5L   FU  M1

def fX3_takeWord_61  (x1 : Int64) (M : Mem) : Option Mem :=
  if (lg_cmp x1 126931137819237) = 0 then
  (wF M 1 4 (0)).bind fun M5 =>
    some M5
  else
  if (lg_cmp x1 2002873452) = 0 then
    (wF M 1 4 (1)).bind fun M4 =>
      some M4
    else
    if (lg_cmp x1 123581014175598) = 0 then
      (wF M 1 4 (2)).bind fun M3 =>
        some M3
      else
      if (lg_cmp x1 31641073268126309) = 0 then
        (wF M 1 4 (3)).bind fun M2 =>
          some M2
        else
        (wF M 1 4 (13)).bind fun M1 =>
          some M1
def fX3_takeWord_2B (k2 : Int64 → Mem → Option Mem) (x1 : Int64) (M : Mem) : Option Mem :=
  if (M.1 1 2) ≤ (M.1 1 3) then
  fX3_takeWord_61   (x1) M
  else
  (rI M 2 400 (M.1 1 3)).bind fun v1 =>
    (fX4_isBetween  (v1) (97) (122)).bind fun v2 =>
    if v2 = 0 then
    fX3_takeWord_61   (x1) M
    else
    (rI M 2 400 (M.1 1 3)).bind fun v3 =>
      (wF M 1 3 ((M.1 1 3) + 1)).bind fun M4 =>
      k2 ((x1 <<< ((8 : Int32).toInt64 &&& 63)) ||| v3.toInt64) M4
def fX3_takeWord_2L    : Nat → Int64 → Mem → Option Mem
  | 0 => fun _ _ => none
  | n + 1 => fun x1 M => fX3_takeWord_2B  (fX3_takeWord_2L   n)  x1 M
def fX3_takeWord   (M : Mem) : Option Mem :=
  fX3_takeWord_2L   FU (0) M

def fX3_nextToken_38   (M : Mem) : Option Mem :=
  (wF M 1 5 (M.1 1 3)).bind fun M1 =>
  if (M1.1 1 3) < (M1.1 1 2) then
  (rI M1 2 400 (M1.1 1 3)).bind fun v2 =>
    if v2 = 59 then
    (wF M1 1 4 (11)).bind fun M10 =>
      (wF M10 1 3 ((M10.1 1 3) + 1)).bind fun M11 =>
      some M11
    else
    (rI M1 2 400 (M1.1 1 3)).bind fun v3 =>
      (fX4_isBetween  (v3) (48) (57)).bind fun v4 =>
      if v4 = 0 then
      (rI M1 2 400 (M1.1 1 3)).bind fun v5 =>
        (fX4_isBetween  (v5) (97) (122)).bind fun v6 =>
        if v6 = 0 then
        (wF M1 1 4 (13)).bind fun M7 =>
          some M7
        else
        (fX3_takeWord   M1).bind fun v8 =>
          some v8
      else
      (fX3_takeNumber   M1).bind fun v9 =>
        some v9
  else
  (wF M1 1 4 (10)).bind fun M12 =>
    some M12
def fX3_nextToken_0B (k0 : Mem → Option Mem)  (M : Mem) : Option Mem :=
  if (M.1 1 2) ≤ (M.1 1 3) then
  fX3_nextToken_38    M
  else
  (rI M 2 400 (M.1 1 3)).bind fun v1 =>
    if v1 = 32 then
    (wF M 1 3 ((M.1 1 3) + 1)).bind fun M2 =>
      k0  M2
    else
    fX3_nextToken_38    M
def fX3_nextToken_0L    : Nat → Mem → Option Mem
  | 0 => fun _ => none
  | n + 1 => fun M => fX3_nextToken_0B  (fX3_nextToken_0L   n)   M
def fX3_nextToken  (M : Mem) : Option Mem := fX3_nextToken_0L  FU  M

def fX3_readNumber  (x1 : Int32) (x2 : Int32) (M : Mem) : Option (Int32 × Mem) :=
  (fX3_nextToken   M).bind fun v1 =>
  if (v1.1 1 4) = 12 then
  (fX4_isBetween  (v1.1 1 6) (x1) (x2)).bind fun v2 =>
    if v2 = 0 then
    some (0, v1)
    else
    some (1, v1)
  else
  some (0, v1)

def fX3_readItem_84 (k35 : Int32 → Int32 → Mem → Option (Int32 × Mem)) (o1 : Nat) (x3 : Int32) (x4 : Int32) (x5 : Int32) (M : Mem) : Option (Int32 × Mem) :=
  (rT tLE ((6 * x3) + x4)).bind fun v1 =>
  (fX3_readNumber  (v1) (x5) M).bind fun v2 =>
  if v2.1 = 0 then
  some (0, v2.2)
  else
  (wI v2.2 3 6 (x4) (v2.2.1 1 6)).bind fun M3 =>
    k35 (x3) (x4 + 1) M3
def fX3_readItem_80 (k35 : Int32 → Int32 → Mem → Option (Int32 × Mem)) (o1 : Nat) (x3 : Int32) (x4 : Int32) (s0 : Int32) (M : Mem) : Option (Int32 × Mem) :=
  fX3_readItem_84 k35 o1 (x3) (x4) (s0 - 1) M
def fX3_readItem_35B (k35 : Int32 → Int32 → Mem → Option (Int32 × Mem)) (o1 : Nat) (x3 : Int32) (x4 : Int32) (M : Mem) : Option (Int32 × Mem) :=
  (rT tNO (x3)).bind fun v1 =>
  if v1 ≤ x4 then
  (fX3_nextToken   M).bind fun v2 =>
    if (v2.1 1 4) = 11 then
    (fX2_addItem o1 3 6 (x3) v2).bind fun v3 =>
      some (1, v3)
    else
    some (0, v2)
  else
  (rT tMO ((6 * x3) + x4)).bind fun v4 =>
    if v4 = ((-1)) then
    if x4 = 0 then
      fX3_readItem_80 k35 o1 (x3) (x4) (M.1 o1 3) M
      else
      fX3_readItem_80 k35 o1 (x3) (x4) (M.1 o1 4) M
    else
    fX3_readItem_84 k35 o1 (x3) (x4) (v4) M
def fX3_readItem_35L  (o1 : Nat)  : Nat → Int32 → Int32 → Mem → Option (Int32 × Mem)
  | 0 => fun _ _ _ => none
  | n + 1 => fun x3 x4 M => fX3_readItem_35B  (fX3_readItem_35L  o1 n) o1 x3 x4 M
def fX3_readItem_32  (o1 : Nat) (x3 : Int32) (M : Mem) : Option (Int32 × Mem) :=
  fX3_readItem_35L  o1 FU (x3) (0) M
def fX3_readItem  (o1 : Nat) (x2 : Int32) (M : Mem) : Option (Int32 × Mem) :=
  (fX4_isBetween  (M.1 1 4) (0) (3)).bind fun v1 =>
  if v1 = 0 then
  some (0, M)
  else
  (fX2_hasRoomFor o1 (M.1 1 4) M).bind fun v2 =>
    if v2 = 0 then
    some (0, M)
    else
    if (M.1 1 4) = 0 then
      if x2 = 0 then
        some (0, M)
        else
        fX3_readItem_32  o1 (M.1 1 4) M
      else
      fX3_readItem_32  o1 (M.1 1 4) M

def fX3_readInto_44 (k11 : Int32 → Mem → Option (Int32 × Mem)) (o1 : Nat) (x2 : Int32) (s0 : Int32) (M : Mem) : Option (Int32 × Mem) :=
  (fX3_readItem o1 (s0) M).bind fun v1 =>
  if v1.1 = 0 then
  some (((-10)) - (v1.2.1 1 5), v1.2)
  else
  k11 (x2 + 1) v1.2
def fX3_readInto_11B (k11 : Int32 → Mem → Option (Int32 × Mem)) (o1 : Nat) (x2 : Int32) (M : Mem) : Option (Int32 × Mem) :=
  if 400 < x2 then
  some (((-10)) - (M.1 1 5), M)
  else
  (fX3_nextToken   M).bind fun v1 =>
    if (v1.1 1 4) = 10 then
    some (x2, v1)
    else
    if x2 = 0 then
      fX3_readInto_44 k11 o1 (x2) (1) v1
      else
      fX3_readInto_44 k11 o1 (x2) (0) v1
def fX3_readInto_11L  (o1 : Nat)  : Nat → Int32 → Mem → Option (Int32 × Mem)
  | 0 => fun _ _ => none
  | n + 1 => fun x2 M => fX3_readInto_11B  (fX3_readInto_11L  o1 n) o1 x2 M
def fX3_readInto  (o1 : Nat) (M : Mem) : Option (Int32 × Mem) :=
  (fX2_beginAnew o1  M).bind fun v1 =>
  (wF v1 1 3 (0)).bind fun M2 =>
  fX3_readInto_11L  o1 FU (0) M2

def fX4_type  (x1 : Int64) (x3 : Int32) (M : Mem) : Option (Int32 × Mem) :=
  (fX4_isBetween  (x3) (1) (8)).bind fun v1 =>
  if v1 = 0 then
  some ((-1), M)
  else
  if ((M.1 1 2) + x3) ≤ 400 then
    (fX3_append  (x1) (x3) M).bind fun v2 =>
      some (v2.1, v2.2)
    else
    some ((-3), M)

def fX4_clear   (M : Mem) : Option (Int32 × Mem) :=
  (wF M 1 2 (0)).bind fun M1 =>
  some (M.1 1 2, M1)

def fX4_square_69B (k69 : Int32 → Int32 → Mem → Option (Int32 × Mem)) (x1 : Int32) (x3 : Int32) (M : Mem) : Option (Int32 × Mem) :=
  if 2 ≤ x3 then
  some (x1, M)
  else
  (wZ M 20 2 (x3) (0)).bind fun M1 =>
    k69 (x1) (x3 + 1) M1
def fX4_square_69L    : Nat → Int32 → Int32 → Mem → Option (Int32 × Mem)
  | 0 => fun _ _ _ => none
  | n + 1 => fun x1 x3 M => fX4_square_69B  (fX4_square_69L   n)  x1 x3 M
def fX4_square   (M : Mem) : Option (Int32 × Mem) :=
  (fX3_readInto (M.2.2 0 6)  M).bind fun v1 =>
  if 0 ≤ v1.1 then
  (fX2_showAll (v1.2.2.2 0 6) (v1.2.2.2 0 6 + 6) 10 (9) v1.2).bind fun v2 =>
    (wH v2 0 5 (v2.2.2 0 6)).bind fun M3 =>
    (wH M3 0 6 (v2.2.2 0 5)).bind fun M4 =>
    (wF M4 1 2 (0)).bind fun M5 =>
    (fX1_tellNothingOfHat 4  M5).bind fun v6 =>
    fX4_square_69L   FU (v1.1) (0) v6
  else
  some (v1.1, v1.2)

def fX4_wall  (x1 : Int32) (x2 : Int32) (M : Mem) : Option Int32 :=
  (fX2_isCell (M.2.2 0 5) (x1) (x2) M).bind fun v1 =>
  if v1 = 0 then
  some ((-1))
  else
  (fX2_isWall (M.2.2 0 5) (x1) (x2) M).bind fun v2 =>
    if v2 = 0 then
    some (0)
    else
    some (1)

def fX4_person  (x1 : Int32) (x2 : Int32) (M : Mem) : Option Int32 :=
  (fX2_isPerson (M.2.2 0 5) (x1) M).bind fun v1 =>
  if v1 = 0 then
  some ((-1))
  else
  (fX4_isBetween  (x2) (0) (5)).bind fun v2 =>
    if v2 = 0 then
    some ((-1))
    else
    (fX2_ofPerson (M.2.2 0 5) (x1) (x2) M).bind fun v3 =>
      some (v3)

def fX4_picture  (x1 : Int32) (x2 : Int32) (M : Mem) : Option Int32 :=
  (fX2_isPicture (M.2.2 0 5) (x1) M).bind fun v1 =>
  if v1 = 0 then
  some ((-1))
  else
  (fX4_isBetween  (x2) (0) (4)).bind fun v2 =>
    if v2 = 0 then
    some ((-1))
    else
    (fX2_ofPicture (M.2.2 0 5) (x1) (x2) M).bind fun v3 =>
      some (v3)

def fX4_where  (x1 : Int32) (x2 : Int32) (M : Mem) : Option Int32 :=
  (fX2_isPerson (M.2.2 0 5) (x1) M).bind fun v1 =>
  if v1 = 0 then
  some ((-1))
  else
  (fX4_isBetween  (x2) (0) (199)).bind fun v2 =>
    if v2 = 0 then
    some ((-1))
    else
    (fX2_cellOf (M.2.2 0 5) (x1) (x2) M).bind fun v3 =>
      some (v3)

def fX4_on  (x1 : Int32) (x2 : Int32) (x3 : Int32) (M : Mem) : Option (Int32 × Mem) :=
  (fX2_isCell (M.2.2 0 5) (x1) (x2) M).bind fun v1 =>
  if v1 = 0 then
  some ((-1), M)
  else
  (fX4_isBetween  (x3) (0) (199)).bind fun v2 =>
    if v2 = 0 then
    some ((-1), M)
    else
    (fX2_peopleOn (M.2.2 0 5) (x1) (x2) (x3) M).bind fun v3 =>
      some (v3.1, v3.2)

def fX4_shows  (x1 : Int32) (M : Mem) : Option Int32 :=
  (fX2_isPicture (M.2.2 0 5) (x1) M).bind fun v1 =>
  if v1 = 0 then
  some ((-1))
  else
  (rI M (M.2.2 0 5 + 6) 10 (x1)).bind fun v2 =>
    some (v2)

def fX4_view  (x1 : Int32) (x2 : Int32) (x3 : Int32) (x4 : Int32) (x5 : Int32) (M : Mem) : Option (Int32 × Mem) :=
  (fX2_isCell (M.2.2 0 5) (x1) (x2) M).bind fun v1 =>
  if v1 = 0 then
  some ((-1), M)
  else
  (fX4_isBetween  (x3) (0) (3)).bind fun v2 =>
    if v2 = 0 then
    some ((-1), M)
    else
    (fX4_isBetween  (x4) (1) (9)).bind fun v3 =>
      if v3 = 0 then
      some ((-1), M)
      else
      (fX4_isBetween  (x5) (0) (199)).bind fun v4 =>
        if v4 = 0 then
        some ((-1), M)
        else
        (fX2_shownFrom (M.2.2 0 5) (x1) (x2) (x3) (x4) (x5) M).bind fun v5 =>
          some (v5.1, v5.2)

def fX4_hidden  (x1 : Int32) (x2 : Int32) (M : Mem) : Option (Int32 × Mem) :=
  (fX2_isPicture (M.2.2 0 5) (x1) M).bind fun v1 =>
  if v1 = 0 then
  some ((-1), M)
  else
  (fX2_isPerson (M.2.2 0 5) (x2) M).bind fun v2 =>
    if v2 = 0 then
    some ((-1), M)
    else
    (fX2_stateInPicture (M.2.2 0 5) (x1) (x2) M).bind fun v3 =>
      some (v3.1, v3.2)

def fX4_from  (x1 : Int32) (x2 : Int32) (x3 : Int32) (x4 : Int32) (M : Mem) : Option (Int32 × Mem) :=
  (fX2_isSetOfPeople (M.2.2 0 5) (x1) M).bind fun v1 =>
  if v1 = 0 then
  some ((-1), M)
  else
  (fX4_isBetween  (x2) (1) (9)).bind fun v2 =>
    if v2 = 0 then
    some ((-1), M)
    else
    (fX4_isBetween  (x3) (0) (199)).bind fun v3 =>
      if v3 = 0 then
      some ((-1), M)
      else
      (fX4_isBetween  (x4) (0) (1)).bind fun v4 =>
        if v4 = 0 then
        some ((-1), M)
        else
        if x4 = 0 then
          (fX2_countPlacesOf (M.2.2 0 5) (x1) (x2) (x3) M).bind fun v6 =>
            some (v6.1, v6.2)
          else
          (fX2_firstPlaceOf (M.2.2 0 5) (x1) (x2) (x3) M).bind fun v5 =>
            some (v5.1, v5.2)

def fX4_fact  (x1 : Int32) (x2 : Int32) (x3 : Int32) (x4 : Int32) (M : Mem) : Option (Int32 × Mem) :=
  (fX4_isBetween  (x1) (0) (3)).bind fun v1 =>
  if v1 = 0 then
  some ((-1), M)
  else
  (fX4_isBetween  (x3) (0) (3)).bind fun v2 =>
    if v2 = 0 then
    some ((-1), M)
    else
    if x1 = x3 then
      some ((-1), M)
      else
      (fX4_isBetween  (x2) (0) (99)).bind fun v3 =>
        if v3 = 0 then
        some ((-1), M)
        else
        (fX4_isBetween  (x4) (0) (99)).bind fun v4 =>
          if v4 = 0 then
          some ((-1), M)
          else
          if (M.1 4 4) < 20 then
            (fX1_addFact 4 (x1) (x2) (x3) (x4) M).bind fun v5 =>
              some (v5.1, v5.2)
            else
            some ((-3), M)

def fX4_right  (x1 : Int32) (M : Mem) : Option (Int32 × Mem) :=
  (fX4_isBetween  (x1) (0) (3)).bind fun v1 =>
  if v1 = 0 then
  some ((-1000000), M)
  else
  (fX0_putRight 4  M).bind fun v2 =>
    if x1 = 0 then
    some (v2.1 21 4, v2)
    else
    (rI v2 23 4 (x1)).bind fun v3 =>
      some (v3, v2)

def fX4_seen  (x1 : Int32) (x2 : Int32) (x3 : Int32) (x4 : Int32) (M : Mem) : Option (Int32 × Mem) :=
  (fX2_isCell (M.2.2 0 5) (x1) (x2) M).bind fun v1 =>
  if v1 = 0 then
  some ((-1), M)
  else
  (fX4_isBetween  (x3) (0) (99)).bind fun v2 =>
    if v2 = 0 then
    some ((-1), M)
    else
    (fX4_isBetween  (x4) (0) (9)).bind fun v3 =>
      if v3 = 0 then
      some ((-1), M)
      else
      if (M.1 4 5) < 8 then
        (fX1_addSeen 4 (x1) (x2) (x3) (x4) M).bind fun v4 =>
          some (v4.1, v4.2)
        else
        some ((-3), M)

def fX4_joined   (M : Mem) : Option (Int32 × Mem) :=
  (fX1_fewestPeople 4  M).bind fun v1 =>
  some (v1.1, v1.2)

def fX4_forget   (M : Mem) : Option (Int32 × Mem) :=
  (wF M 4 4 (0)).bind fun M1 =>
  (wF M1 4 5 (0)).bind fun M2 =>
  some ((M.1 4 4) + (M.1 4 5), M2)

def fX4_greatestDivisor_29  (x2 : Int32)  : Option Int32 :=
  some (imax x2 1)
def fX4_greatestDivisor_23 (k6 : Int32 → Int32 → Int32 → Option Int32) (x0 : Int32) (x1 : Int32) (x2 : Int32)  : Option Int32 :=
  k6 (x0) (x1) (x2 + (-1))
def fX4_greatestDivisor_6B (k6 : Int32 → Int32 → Int32 → Option Int32) (x0 : Int32) (x1 : Int32) (x2 : Int32)  : Option Int32 :=
  if x2 ≤ 1 then
  fX4_greatestDivisor_29   (x2)
  else
  (oR (x0) (x2)).bind fun v1 =>
    if v1 = 0 then
    (oR (x1) (x2)).bind fun v2 =>
      if v2 = 0 then
      fX4_greatestDivisor_29   (x2)
      else
      fX4_greatestDivisor_23 k6  (x0) (x1) (x2)
    else
    fX4_greatestDivisor_23 k6  (x0) (x1) (x2)
def fX4_greatestDivisor_6L    : Nat → Int32 → Int32 → Int32 → Option Int32
  | 0 => fun _ _ _ => none
  | n + 1 => fun x0 x1 x2 => fX4_greatestDivisor_6B  (fX4_greatestDivisor_6L   n)  x0 x1 x2
def fX4_greatestDivisor  (x0 : Int32) (x1 : Int32)  : Option Int32 :=
  fX4_greatestDivisor_6L   FU (x0) (x1) (imin x0 x1)

def fX4_all  (x1 : Int32) (x2 : Int32) (x3 : Int32) (M : Mem) : Option Int32 :=
  (fX2_isPicture (M.2.2 0 5) (x1) M).bind fun v1 =>
  if v1 = 0 then
  some ((-1))
  else
  (fX2_isPicture (M.2.2 0 5) (x2) M).bind fun v2 =>
    if v2 = 0 then
    some ((-1))
    else
    if x1 = x2 then
      some ((-1))
      else
      (fX4_isBetween  (x3) (0) (1)).bind fun v3 =>
        if v3 = 0 then
        some ((-1))
        else
        (rI M (M.2.2 0 5 + 6) 10 (x1)).bind fun v4 =>
          (rI M (M.2.2 0 5 + 6) 10 (x2)).bind fun v5 =>
          (fJ6_bitCount_0f7a4  (v4 &&& v5)).bind fun v6 =>
          if v6 = 0 then
          some ((-2))
          else
          (fJ6_bitCount_0f7a4  (v4)).bind fun v7 =>
            (fJ6_bitCount_0f7a4  (v5)).bind fun v8 =>
            (fX4_greatestDivisor  (v7 * v8) (v6)).bind fun v9 =>
            if x3 = 0 then
            (oD (v7 * v8) (v9)).bind fun v11 =>
              some (v11)
            else
            (oD (v6) (v9)).bind fun v10 =>
              some (v10)

def fX4_has  (x1 : Int32) (x2 : Int32) (M : Mem) : Option (Int32 × Mem) :=
  (fX2_isPicture (M.2.2 0 5) (x1) M).bind fun v1 =>
  if v1 = 0 then
  some ((-1), M)
  else
  (fX4_isBetween  (x2) (0) (2)).bind fun v2 =>
    if v2 = 0 then
    some ((-1), M)
    else
    (rI M (4 + 3) 10 (x1)).bind fun v3 =>
      (wI M (4 + 3) 10 (x1) (x2)).bind fun M4 =>
      some (v3, M4)

def fX4_lastWithHat_43 (k5 : Int32 → Int32 → Option Int32) (x1 : Int32) (x2 : Int32) (M : Mem) : Option Int32 :=
  k5 (x1) (x2 + 1)
def fX4_lastWithHat_5B (k5 : Int32 → Int32 → Option Int32) (x1 : Int32) (x2 : Int32) (M : Mem) : Option Int32 :=
  if (M.1 (M.2.2 0 5) 7) ≤ x2 then
  some (x1)
  else
  (rI M (4 + 3) 10 (x2)).bind fun v1 =>
    if v1 = 1 then
    (fX2_ofPicture (M.2.2 0 5) (x2) (4) M).bind fun v2 =>
      fX4_lastWithHat_43 k5  (imax x1 v2) (x2) M
    else
    fX4_lastWithHat_43 k5  (x1) (x2) M
def fX4_lastWithHat_5L   (M : Mem) : Nat → Int32 → Int32 → Option Int32
  | 0 => fun _ _ => none
  | n + 1 => fun x1 x2 => fX4_lastWithHat_5B  (fX4_lastWithHat_5L   M n)  x1 x2 M
def fX4_lastWithHat   (M : Mem) : Option Int32 :=
  fX4_lastWithHat_5L   M FU ((-9)) (0)

def fX4_firstWithoutHat_65 (k10 : Int32 → Int32 → Int32 → Option Int32) (x1 : Int32) (x2 : Int32) (x3 : Int32) (M : Mem) : Option Int32 :=
  k10 (x1) (x2) (x3 + 1)
def fX4_firstWithoutHat_62 (k10 : Int32 → Int32 → Int32 → Option Int32) (x1 : Int32) (x3 : Int32) (x4 : Int32) (M : Mem) : Option Int32 :=
  fX4_firstWithoutHat_65 k10  (x1) (x4) (x3) M
def fX4_firstWithoutHat_10B (k10 : Int32 → Int32 → Int32 → Option Int32) (x1 : Int32) (x2 : Int32) (x3 : Int32) (M : Mem) : Option Int32 :=
  if (M.1 (M.2.2 0 5) 7) ≤ x3 then
  some (x2)
  else
  (fX2_ofPicture (M.2.2 0 5) (x3) (4) M).bind fun v1 =>
    (rI M (4 + 3) 10 (x3)).bind fun v2 =>
    if v2 = 0 then
    if v1 ≤ x1 then
      fX4_firstWithoutHat_65 k10  (x1) (x2) (x3) M
      else
      if x2 = ((-9)) then
        fX4_firstWithoutHat_62 k10  (x1) (x3) (v1) M
        else
        if x2 ≤ v1 then
          fX4_firstWithoutHat_65 k10  (x1) (x2) (x3) M
          else
          fX4_firstWithoutHat_62 k10  (x1) (x3) (v1) M
    else
    fX4_firstWithoutHat_65 k10  (x1) (x2) (x3) M
def fX4_firstWithoutHat_10L   (M : Mem) : Nat → Int32 → Int32 → Int32 → Option Int32
  | 0 => fun _ _ _ => none
  | n + 1 => fun x1 x2 x3 => fX4_firstWithoutHat_10B  (fX4_firstWithoutHat_10L   M n)  x1 x2 x3 M
def fX4_firstWithoutHat   (M : Mem) : Option Int32 :=
  (fX4_lastWithHat   M).bind fun v1 =>
  fX4_firstWithoutHat_10L   M FU (v1) ((-9)) (0)

def fX4_hat  (x1 : Int32) (M : Mem) : Option Int32 :=
  (fX4_isBetween  (x1) (0) (1)).bind fun v1 =>
  if v1 = 0 then
  some ((-1))
  else
  if x1 = 0 then
    (fX4_lastWithHat   M).bind fun v3 =>
      some (v3)
    else
    (fX4_firstWithoutHat   M).bind fun v2 =>
      some (v2)

def fX4_near_60B (k60 : Int32 → Int32 → Int32 → Int32 → Int32 → Int32 → Mem → Option (Int32 × Mem)) (x1 : Int32) (x2 : Int32) (x3 : Int32) (x5 : Int32) (x6 : Int32) (x7 : Int32) (M : Mem) : Option (Int32 × Mem) :=
  if x5 < x7 then
  some (x6, M)
  else
  (fX2_peopleNear (M.2.2 0 5) (x1) (x2) (x3) (x7) M).bind fun v1 =>
    k60 (x1) (x2) (x3) (x5) (x6 ||| v1.1) (x7 + 1) v1.2
def fX4_near_60L    : Nat → Int32 → Int32 → Int32 → Int32 → Int32 → Int32 → Mem → Option (Int32 × Mem)
  | 0 => fun _ _ _ _ _ _ _ => none
  | n + 1 => fun x1 x2 x3 x5 x6 x7 M => fX4_near_60B  (fX4_near_60L   n)  x1 x2 x3 x5 x6 x7 M
def fX4_near  (x1 : Int32) (x2 : Int32) (x3 : Int32) (M : Mem) : Option (Int32 × Mem) :=
  (fX2_isCell (M.2.2 0 5) (x1) (x2) M).bind fun v1 =>
  if v1 = 0 then
  some ((-1), M)
  else
  (fX4_isBetween  (x3) (0) (11)).bind fun v2 =>
    if v2 = 0 then
    some ((-1), M)
    else
    (fX4_lastWithHat   M).bind fun v3 =>
      (fX4_firstWithoutHat   M).bind fun v4 =>
      if v3 = ((-9)) then
      some ((-2), M)
      else
      if v4 = ((-9)) then
        some ((-2), M)
        else
        fX4_near_60L   FU (x1) (x2) (x3) (v4) (0) (v3) M

def fX4_empty  (x1 : Int32) (x2 : Int32) (M : Mem) : Option (Int32 × Mem) :=
  (fX2_isPicture (M.2.2 0 5) (x1) M).bind fun v1 =>
  if v1 = 0 then
  some ((-1), M)
  else
  (fX4_isBetween  (x2) (0) (1)).bind fun v2 =>
    if v2 = 0 then
    some ((-1), M)
    else
    if x2 = 0 then
      (fX2_fewestForEmpty (M.2.2 0 5) (x1) M).bind fun v4 =>
        some (v4.1, v4.2)
      else
      (fX2_countNeverEmpty (M.2.2 0 5) (x1) M).bind fun v3 =>
        some (v3.1, v3.2)

def fX4_waits  (x1 : Int32) (M : Mem) : Option (Int32 × Mem) :=
  (fX2_isPicture (M.2.2 0 5) (x1) M).bind fun v1 =>
  if v1 = 0 then
  some ((-1), M)
  else
  (fX2_waitOf (M.2.2 0 5) (x1) M).bind fun v2 =>
    some (v2.1, v2.2)

def fX4_lost_34 (k4 : Int32 → Int32 → Mem → Option (Int32 × Mem)) (x1 : Int32) (x2 : Int32) (M : Mem) : Option (Int32 × Mem) :=
  k4 (x1) (x2 + 1) M
def fX4_lost_4B (k4 : Int32 → Int32 → Mem → Option (Int32 × Mem)) (x1 : Int32) (x2 : Int32) (M : Mem) : Option (Int32 × Mem) :=
  if (M.1 (M.2.2 0 5) 7) ≤ x2 then
  some (x1, M)
  else
  (fX2_waitOf (M.2.2 0 5) (x2) M).bind fun v1 =>
    if v1.1 = ((-9)) then
    fX4_lost_34 k4  (x1) (x2) v1.2
    else
    fX4_lost_34 k4  (x1 + v1.1) (x2) v1.2
def fX4_lost_4L    : Nat → Int32 → Int32 → Mem → Option (Int32 × Mem)
  | 0 => fun _ _ _ => none
  | n + 1 => fun x1 x2 M => fX4_lost_4B  (fX4_lost_4L   n)  x1 x2 M
def fX4_lost   (M : Mem) : Option (Int32 × Mem) :=
  fX4_lost_4L   FU (0) (0) M

def fX4_told  (x1 : Int32) (x2 : Int32) (M : Mem) : Option Int32 :=
  (fX2_isPerson (M.2.2 0 5) (x1) M).bind fun v1 =>
  if v1 = 0 then
  some ((-1))
  else
  (fX4_isBetween  (x2) (0) (3)).bind fun v2 =>
    if v2 = 0 then
    some ((-1))
    else
    if x2 = 0 then
      (fX4_countShowing (M.2.2 0 5 + 6) 10 (M.1 (M.2.2 0 5) 7) (1 <<< (x1 &&& 31)) M).bind fun v3 =>
        some (v3)
      else
      if x2 = 1 then
        (fX2_mostOftenWith (M.2.2 0 5) (x1) M).bind fun v4 =>
          some (v4)
        else
        if x2 = 2 then
          (fX2_firstSecondOf (M.2.2 0 5) (x1) M).bind fun v5 =>
            some (v5)
          else
          (fX2_lastSecondOf (M.2.2 0 5) (x1) M).bind fun v6 =>
            some (v6)

def fX4_rule_15B (k15 : Int32 → Int32 → Mem → Option (Int32 × Mem)) (x1 : Int32) (x2 : Int32) (M : Mem) : Option (Int32 × Mem) :=
  if x2 ≤ 0 then
  some (x2, M)
  else
  (fX2_mostPicturesOfOne (M.2.2 0 5) (x2) M).bind fun v1 =>
    if v1.1 ≤ x1 then
    some (x2, v1.2)
    else
    k15 (x1) (x2 + (-1)) v1.2
def fX4_rule_15L    : Nat → Int32 → Int32 → Mem → Option (Int32 × Mem)
  | 0 => fun _ _ _ => none
  | n + 1 => fun x1 x2 M => fX4_rule_15B  (fX4_rule_15L   n)  x1 x2 M
def fX4_rule  (x1 : Int32) (M : Mem) : Option (Int32 × Mem) :=
  (fX4_isBetween  (x1) (0) (10)).bind fun v1 =>
  if v1 = 0 then
  some ((-1), M)
  else
  fX4_rule_15L   FU (x1) (9) M

def fX4_untrue  (x1 : Int32) (x2 : Int32) (M : Mem) : Option Int32 :=
  (fX2_isPicture (M.2.2 0 5) (x1) M).bind fun v1 =>
  if v1 = 0 then
  some ((-1))
  else
  (fX2_isSetOfPeople (M.2.2 0 5) (x2) M).bind fun v2 =>
    if v2 = 0 then
    some ((-1))
    else
    (rI M (M.2.2 0 5 + 6) 10 (x1)).bind fun v3 =>
      (fJ6_bitCount_0f7a4  (v3 ^^^ x2)).bind fun v4 =>
      some (v4)

def fX4_ratePicture  (x1 : Int32) (M : Mem) : Option (Int32 × Mem) :=
  (wG M 0 7 ((M.2.1 0 7) + 1)).bind fun M1 =>
  (rI M1 (M1.2.2 0 5 + 6) 10 (x1)).bind fun v2 =>
  (fJ6_bitCount_0f7a4  (v2)).bind fun v3 =>
  some (v3, M1)

def fX4_ratePosed  (x1 : Int32) (M : Mem) : Option (Int32 × Mem) :=
  (wG M 0 7 ((M.2.1 0 7) + 10)).bind fun M1 =>
  (fX4_ratePicture  (x1) M1).bind fun v2 =>
  (fX2_ofPicture (v2.2.2.2 0 5) (x1) (3) v2.2).bind fun v3 =>
  some (v2.1 + v3, v2.2)

def fX4_rateCrossed  (x1 : Int32) (M : Mem) : Option (Int32 × Mem) :=
  (wG M 0 7 ((M.2.1 0 7) + 100)).bind fun M1 =>
  (fX4_ratePicture  (x1) M1).bind fun v2 =>
  some (v2.1 * 3, v2.2)

def fX4_rateWaitedFor  (x1 : Int32) (M : Mem) : Option (Int32 × Mem) :=
  (wG M 0 7 ((M.2.1 0 7) + 1000)).bind fun M1 =>
  (fX2_waitOf (M1.2.2 0 5) (x1) M1).bind fun v2 =>
  (fX4_rateCrossed  (x1) v2.2).bind fun v3 =>
  if v2.1 = ((-9)) then
  some (v3.1 + 100, v3.2)
  else
  some (v3.1 + v2.1, v3.2)

def fX4_rateCopied  (x1 : Int32) (M : Mem) : Option (Int32 × Mem) :=
  (wG M 0 7 ((M.2.1 0 7) + 10000)).bind fun M1 =>
  (fX4_ratePosed  (x1) M1).bind fun v2 =>
  some (v2.1 * 2, v2.2)

def fX4_rateClocked  (x1 : Int32) (M : Mem) : Option (Int32 × Mem) :=
  (wG M 0 7 ((M.2.1 0 7) + 100000)).bind fun M1 =>
  (fX4_ratePicture  (x1) M1).bind fun v2 =>
  (fX2_ofPicture (v2.2.2.2 0 5) (x1) (4) v2.2).bind fun v3 =>
  some (v2.1 - v3, v2.2)

def fX4_rate  (x1 : Int32) (x2 : Int32) (M : Mem) : Option (Int32 × Mem) :=
  (fX4_isBetween  (x1) (0) (5)).bind fun v1 =>
  if v1 = 0 then
  some ((-1000000), M)
  else
  (fX2_isPicture (M.2.2 0 5) (x2) M).bind fun v2 =>
    if v2 = 0 then
    some ((-1000000), M)
    else
    if x1 = 1 then
      (fX4_ratePosed  (x2) M).bind fun v3 =>
        some (v3.1, v3.2)
      else
      if x1 = 2 then
        (fX4_rateCrossed  (x2) M).bind fun v4 =>
          some (v4.1, v4.2)
        else
        if x1 = 3 then
          (fX4_rateWaitedFor  (x2) M).bind fun v5 =>
            some (v5.1, v5.2)
          else
          if x1 = 4 then
            (fX4_rateCopied  (x2) M).bind fun v6 =>
              some (v6.1, v6.2)
            else
            if x1 = 5 then
              (fX4_rateClocked  (x2) M).bind fun v7 =>
                some (v7.1, v7.2)
              else
              (fX4_ratePicture  (x2) M).bind fun v8 =>
                some (v8.1, v8.2)

def fX4_keep  (x1 : Int32) (M : Mem) : Option (Int32 × Mem) :=
  (fX4_isBetween  (x1) (0) (1)).bind fun v1 =>
  if v1 = 0 then
  some ((-1), M)
  else
  (rN (x1)).bind fun q2 =>
    (fX1_become q2 4  M).bind fun v3 =>
    (wZ v3 20 2 (x1) (1)).bind fun M4 =>
    some (M4.1 4 4, M4)

def fX4_back  (x1 : Int32) (M : Mem) : Option (Int32 × Mem) :=
  (fX4_isBetween  (x1) (0) (1)).bind fun v1 =>
  if v1 = 0 then
  some ((-1), M)
  else
  (rI M 20 2 (x1)).bind fun v2 =>
    if v2 = 0 then
    some ((-2), M)
    else
    (rN (x1)).bind fun q3 =>
      (fX1_become 4 q3  M).bind fun v4 =>
      some (v4.1 4 4, v4)

def fX4_count  (x1 : Int32) (M : Mem) : Option Int32 :=
  if x1 = 0 then
  some (M.1 (M.2.2 0 5) 6)
  else
  if x1 = 1 then
    some (M.1 (M.2.2 0 5) 7)
    else
    if x1 = 2 then
      some (M.1 (M.2.2 0 5) 5)
      else
      if x1 = 3 then
        some (M.1 4 4)
        else
        if x1 = 4 then
          some (M.1 4 5)
          else
          if x1 = 5 then
            some (M.1 1 2)
            else
            if x1 = 6 then
              some (M.1 (M.2.2 0 5) 3)
              else
              if x1 = 7 then
                some (M.1 (M.2.2 0 5) 4)
                else
                some ((-1))

def fX4_trace   (M : Mem) : Option Int64 :=
  some (M.2.1 0 7)

def fX5_in  (x0 : Int32) (x1 : Int32) (x2 : Int32)  : Option Int32 :=
  if x0 < x1 then
  some (0)
  else
  if x2 < x0 then
    some (0)
    else
    some (1)

def fX5_type_32B (k32 : Int64 → Int32 → Mem → Option (Int32 × Mem)) (x1 : Int64) (x4 : Int32) (M : Mem) : Option (Int32 × Mem) :=
  if x4 < 0 then
  some (M.1 42 2, M)
  else
  (wB M 43 400 (M.1 42 2) ((((x1 >>> ((8 * x4 : Int32).toInt64 &&& 63)) &&& 255).toInt32 : Int32).toInt8.toInt32)).bind fun M1 =>
    (wF M1 42 2 ((M1.1 42 2) + 1)).bind fun M2 =>
    k32 (x1) (x4 + (-1)) M2
def fX5_type_32L    : Nat → Int64 → Int32 → Mem → Option (Int32 × Mem)
  | 0 => fun _ _ _ => none
  | n + 1 => fun x1 x4 M => fX5_type_32B  (fX5_type_32L   n)  x1 x4 M
def fX5_type  (x1 : Int64) (x3 : Int32) (M : Mem) : Option (Int32 × Mem) :=
  (fX5_in  (x3) (1) (8)).bind fun v1 =>
  if v1 = 0 then
  some ((-1), M)
  else
  if ((M.1 42 2) + x3) ≤ 400 then
    fX5_type_32L   FU (x1) (x3 - 1) M
    else
    some ((-3), M)

def fX5_clear   (M : Mem) : Option (Int32 × Mem) :=
  (wF M 42 2 (0)).bind fun M1 =>
  some (M.1 42 2, M1)

def fX5_here   (M : Mem) : Option Int32 :=
  if (M.1 42 2) ≤ (M.1 42 10) then
  some ((-1))
  else
  (rI M 43 400 (M.1 42 10)).bind fun v1 =>
    some (v1 &&& 255)

def fX5_meaning  (x0 : Int32) (x1 : Int32)  : Option Int32 :=
  if x1 ≤ 0 then
  if x0 = 453774 then
    some (1)
    else
    if x0 = 232608281 then
      some (2)
      else
      if x0 = 282078293 then
        some (0)
        else
        some (7)
  else
  if x0 = 234439695 then
    if x1 = 5 then
      some (3)
      else
      some (7)
    else
    some (7)

def fX5_next_280  (s0 : Int32) (M : Mem) : Option Mem :=
  (wF M 42 12 (s0)).bind fun M1 =>
  some M1
def fX5_next_279   (M : Mem) : Option Mem :=
  fX5_next_280   (5) M
def fX5_next_274   (M : Mem) : Option Mem :=
  fX5_next_280   (7) M
def fX5_next_229 (k183 : Int32 → Mem → Option Mem) (x1 : Int32) (s0 : Int32) (M : Mem) : Option Mem :=
  (wF M 42 13 (s0)).bind fun M1 =>
  (wF M1 42 10 ((M1.1 42 10) + 1)).bind fun M2 =>
  k183 (x1) M2
def fX5_next_183B (k183 : Int32 → Mem → Option Mem) (x1 : Int32) (M : Mem) : Option Mem :=
  (fX5_here   M).bind fun v1 =>
  (fX5_in  (v1) (48) (57)).bind fun v2 =>
  if v2 = 0 then
  if 99 < (M.1 42 13) then
    fX5_next_274    M
    else
    if x1 = 48 then
      if ((M.1 42 10) - (M.1 42 11)) ≤ 1 then
        fX5_next_279    M
        else
        fX5_next_274    M
      else
      fX5_next_279    M
  else
  if (M.1 42 13) ≤ 99 then
    (fX5_here   M).bind fun v3 =>
      fX5_next_229 k183  (x1) (((10 * (M.1 42 13)) + v3) - 48) M
    else
    fX5_next_229 k183  (x1) (M.1 42 13) M
def fX5_next_183L    : Nat → Int32 → Mem → Option Mem
  | 0 => fun _ _ => none
  | n + 1 => fun x1 M => fX5_next_183B  (fX5_next_183L   n)  x1 M
def fX5_next_146 (k67 : Int32 → Int32 → Mem → Option Mem) (x2 : Int32) (s0 : Int32) (M : Mem) : Option Mem :=
  (wF M 42 10 ((M.1 42 10) + 1)).bind fun M1 =>
  k67 (x2) (s0) M1
def fX5_next_115 (k67 : Int32 → Int32 → Mem → Option Mem) (x3 : Int32) (x4 : Int32) (s0 : Int32) (M : Mem) : Option Mem :=
  if x4 = 6 then
  (fX5_here   M).bind fun v1 =>
    fX5_next_146 k67  (s0) (v1 - 96) M
  else
  if x4 ≤ 6 then
    fX5_next_146 k67  (s0) (x3) M
    else
    fX5_next_146 k67  (s0) (99) M
def fX5_next_67B (k67 : Int32 → Int32 → Mem → Option Mem) (x2 : Int32) (x3 : Int32) (M : Mem) : Option Mem :=
  (fX5_here   M).bind fun v1 =>
  (fX5_in  (v1) (97) (122)).bind fun v2 =>
  if v2 = 0 then
  (fX5_meaning  (x2) (x3)).bind fun v3 =>
    (wF M 42 12 (v3)).bind fun M4 =>
    some M4
  else
  if 6 ≤ ((M.1 42 10) - (M.1 42 11)) then
    fX5_next_115 k67  (x3) ((M.1 42 10) - (M.1 42 11)) (x2) M
    else
    (fX5_here   M).bind fun v5 =>
      fX5_next_115 k67  (x3) ((M.1 42 10) - (M.1 42 11)) (((27 * x2) + v5) - 96) M
def fX5_next_67L    : Nat → Int32 → Int32 → Mem → Option Mem
  | 0 => fun _ _ _ => none
  | n + 1 => fun x2 x3 M => fX5_next_67B  (fX5_next_67L   n)  x2 x3 M
def fX5_next_0B (k0 : Mem → Option Mem)  (M : Mem) : Option Mem :=
  (fX5_here   M).bind fun v1 =>
  if v1 = 32 then
  (wF M 42 10 ((M.1 42 10) + 1)).bind fun M11 =>
    k0  M11
  else
  (wF M 42 11 (M.1 42 10)).bind fun M2 =>
    (wF M2 42 13 (0)).bind fun M3 =>
    (fX5_here   M3).bind fun v4 =>
    if 0 ≤ v4 then
    (fX5_in  (v4) (97) (122)).bind fun v5 =>
      if v5 = 0 then
      (fX5_in  (v4) (48) (57)).bind fun v6 =>
        if v6 = 0 then
        (wF M3 42 10 ((M3.1 42 10) + 1)).bind fun M7 =>
          if v4 = 59 then
          (wF M7 42 12 (6)).bind fun M9 =>
            some M9
          else
          (wF M7 42 12 (7)).bind fun M8 =>
            some M8
        else
        fX5_next_183L   FU (v4) M3
      else
      fX5_next_67L   FU (0) (0) M3
    else
    (wF M3 42 12 (4)).bind fun M10 =>
      some M10
def fX5_next_0L    : Nat → Mem → Option Mem
  | 0 => fun _ => none
  | n + 1 => fun M => fX5_next_0B  (fX5_next_0L   n)   M
def fX5_next  (M : Mem) : Option Mem := fX5_next_0L  FU  M

def fX5_due  (x1 : Int32) (M : Mem) : Option (Int32 × Mem) :=
  if (M.1 42 14) = ((-9)) then
  if x1 = 0 then
    (wF M 42 14 (M.1 42 11)).bind fun M1 =>
      some (M.1 42 13, M1)
    else
    (fX5_next   M).bind fun v2 =>
      some (M.1 42 13, v2)
  else
  some (M.1 42 13, M)

def fX5_number_26  (s0 : Int32) (M : Mem) : Option (Int32 × Mem) :=
  (fX5_due  (s0) M).bind fun v1 =>
  some (v1.1, v1.2)
def fX5_number_25   (M : Mem) : Option (Int32 × Mem) :=
  fX5_number_26   (0) M
def fX5_number  (x1 : Int32) (x2 : Int32) (M : Mem) : Option (Int32 × Mem) :=
  if (M.1 42 12) = 5 then
  (fX5_in  (M.1 42 13) (x1) (x2)).bind fun v1 =>
    if v1 = 0 then
    fX5_number_25    M
    else
    fX5_number_26   (1) M
  else
  fX5_number_25    M

def fX5_item_392  (s0 : Int32) (M : Mem) : Option Mem :=
  (fX5_due  (s0) M).bind fun v1 =>
  some v1.2
def fX5_item_377   (M : Mem) : Option Mem :=
  if (M.1 42 12) = 6 then
  fX5_item_392   (1) M
  else
  fX5_item_392   (0) M
def fX5_item_169  (x1 : Int32) (x3 : Int32) (x4 : Int32) (M : Mem) : Option Mem :=
  if x1 = 2 then
  (rI M 47 2 (1)).bind fun v12 =>
    (wI M 48 96 (48 + (6 * v12)) (x3)).bind fun M13 =>
    (wI M13 48 96 ((48 + (6 * v12)) + 1) (x4)).bind fun M14 =>
    (fX5_number  (0) (4) M14).bind fun v15 =>
    (wI v15.2 48 96 ((48 + (6 * v12)) + 2) (v15.1)).bind fun M16 =>
    (fX5_number  (0) (99) M16).bind fun v17 =>
    (wI v17.2 48 96 ((48 + (6 * v12)) + 3) (v17.1)).bind fun M18 =>
    (fX5_number  (0) (99) M18).bind fun v19 =>
    (wI v19.2 48 96 ((48 + (6 * v12)) + 4) (v19.1)).bind fun M20 =>
    (fX5_number  (0) (9) M20).bind fun v21 =>
    (wI v21.2 48 96 ((48 + (6 * v12)) + 5) (v21.1)).bind fun M22 =>
    (rI M22 47 2 (1)).bind fun v23 =>
    (wI M22 47 2 (1) (v23 + 1)).bind fun M24 =>
    fX5_item_377    M24
  else
  if x1 = 3 then
    (rI M 49 2 (1)).bind fun v1 =>
      (wI M 50 100 (50 + (5 * v1)) (x3)).bind fun M2 =>
      (wI M2 50 100 ((50 + (5 * v1)) + 1) (x4)).bind fun M3 =>
      (fX5_number  (0) (3) M3).bind fun v4 =>
      (wI v4.2 50 100 ((50 + (5 * v1)) + 2) (v4.1)).bind fun M5 =>
      (fX5_number  (1) (9) M5).bind fun v6 =>
      (wI v6.2 50 100 ((50 + (5 * v1)) + 3) (v6.1)).bind fun M7 =>
      (fX5_number  (0) (99) M7).bind fun v8 =>
      (wI v8.2 50 100 ((50 + (5 * v1)) + 4) (v8.1)).bind fun M9 =>
      (rI M9 49 2 (1)).bind fun v10 =>
      (wI M9 49 2 (1) (v10 + 1)).bind fun M11 =>
      fX5_item_377    M11
    else
    fX5_item_377    M
def fX5_item_59  (x1 : Int32) (s0 : Int32) (M : Mem) : Option Mem :=
  (fX5_due  (s0) M).bind fun v1 =>
  if (v1.2.1 42 14) = ((-9)) then
  if x1 = 0 then
    (fX5_number  (3) (12) v1.2).bind fun v7 =>
      (wI v7.2 44 2 (1) (v7.1)).bind fun M8 =>
      (fX5_number  (3) (12) M8).bind fun v9 =>
      (wI v9.2 45 2 (1) (v9.1)).bind fun M10 =>
      fX5_item_377    M10
    else
    (rI v1.2 44 2 (1)).bind fun v2 =>
      (fX5_number  (0) (v2 - 1) v1.2).bind fun v3 =>
      (rI v3.2 45 2 (1)).bind fun v4 =>
      (fX5_number  (0) (v4 - 1) v3.2).bind fun v5 =>
      if x1 = 1 then
      if (v5.2.1 42 14) = ((-9)) then
        (wZ v5.2 46 288 ((144 + (12 * v5.1)) + v3.1) (1)).bind fun M6 =>
          fX5_item_377    M6
        else
        fX5_item_169   (x1) (v3.1) (v5.1) v5.2
      else
      fX5_item_169   (x1) (v3.1) (v5.1) v5.2
  else
  some v1.2
def fX5_item_58  (x1 : Int32) (M : Mem) : Option Mem :=
  fX5_item_59   (x1) (0) M
def fX5_item_54  (x1 : Int32) (M : Mem) : Option Mem :=
  fX5_item_59   (x1) (1) M
def fX5_item_38  (x1 : Int32) (M : Mem) : Option Mem :=
  if x1 = 3 then
  (rI M 49 2 (1)).bind fun v1 =>
    if 10 ≤ v1 then
    fX5_item_58   (x1) M
    else
    fX5_item_54   (x1) M
  else
  fX5_item_58   (x1) M
def fX5_item  (x1 : Int32) (x2 : Int32) (M : Mem) : Option Mem :=
  if x1 = 0 then
  if x2 = 0 then
    fX5_item_59   (x1) (1) M
    else
    fX5_item_59   (x1) (0) M
  else
  if x1 = 1 then
    fX5_item_54   (x1) M
    else
    if x1 = 2 then
      (rI M 47 2 (1)).bind fun v1 =>
        if v1 < 8 then
        fX5_item_54   (x1) M
        else
        fX5_item_38   (x1) M
      else
      fX5_item_38   (x1) M

def fX5_square_261B (k261 : Int32 → Int32 → Mem → Option (Int32 × Mem)) (x1 : Int32) (x2 : Int32) (M : Mem) : Option (Int32 × Mem) :=
  if 10 ≤ x2 then
  (wZ M 62 2 (0) (0)).bind fun M1 =>
    (wZ M1 62 2 (1) (0)).bind fun M2 =>
    (wF M2 42 2 (0)).bind fun M3 =>
    some (x1, M3)
  else
  (wI M 61 30 (x2) (2)).bind fun M4 =>
    k261 (x1) (x2 + 1) M4
def fX5_square_261L    : Nat → Int32 → Int32 → Mem → Option (Int32 × Mem)
  | 0 => fun _ _ _ => none
  | n + 1 => fun x1 x2 M => fX5_square_261B  (fX5_square_261L   n)  x1 x2 M
def fX5_square_232B (k232 : Int32 → Int32 → Mem → Option (Int32 × Mem)) (x1 : Int32) (x2 : Int32) (M : Mem) : Option (Int32 × Mem) :=
  if 50 ≤ x2 then
  fX5_square_261L   FU (x1) (0) M
  else
  (rI M 50 100 (50 + x2)).bind fun v1 =>
    (wI M 50 100 (x2) (v1)).bind fun M2 =>
    k232 (x1) (x2 + 1) M2
def fX5_square_232L    : Nat → Int32 → Int32 → Mem → Option (Int32 × Mem)
  | 0 => fun _ _ _ => none
  | n + 1 => fun x1 x2 M => fX5_square_232B  (fX5_square_232L   n)  x1 x2 M
def fX5_square_203B (k203 : Int32 → Int32 → Mem → Option (Int32 × Mem)) (x1 : Int32) (x2 : Int32) (M : Mem) : Option (Int32 × Mem) :=
  if 48 ≤ x2 then
  fX5_square_232L   FU (x1) (0) M
  else
  (rI M 48 96 (48 + x2)).bind fun v1 =>
    (wI M 48 96 (x2) (v1)).bind fun M2 =>
    k203 (x1) (x2 + 1) M2
def fX5_square_203L    : Nat → Int32 → Int32 → Mem → Option (Int32 × Mem)
  | 0 => fun _ _ _ => none
  | n + 1 => fun x1 x2 M => fX5_square_203B  (fX5_square_203L   n)  x1 x2 M
def fX5_square_172B (k172 : Int32 → Int32 → Mem → Option (Int32 × Mem)) (x1 : Int32) (x2 : Int32) (M : Mem) : Option (Int32 × Mem) :=
  if 144 ≤ x2 then
  fX5_square_203L   FU (x1) (0) M
  else
  (rI M 46 288 (144 + x2)).bind fun v1 =>
    (wZ M 46 288 (x2) (v1)).bind fun M2 =>
    k172 (x1) (x2 + 1) M2
def fX5_square_172L    : Nat → Int32 → Int32 → Mem → Option (Int32 × Mem)
  | 0 => fun _ _ _ => none
  | n + 1 => fun x1 x2 M => fX5_square_172B  (fX5_square_172L   n)  x1 x2 M
def fX5_square_105  (x1 : Int32) (M : Mem) : Option (Int32 × Mem) :=
  if (M.1 42 14) = ((-9)) then
  (rI M 44 2 (1)).bind fun v1 =>
    (wI M 44 2 (0) (v1)).bind fun M2 =>
    (rI M2 45 2 (1)).bind fun v3 =>
    (wI M2 45 2 (0) (v3)).bind fun M4 =>
    (rI M4 47 2 (1)).bind fun v5 =>
    (wI M4 47 2 (0) (v5)).bind fun M6 =>
    (rI M6 49 2 (1)).bind fun v7 =>
    (wI M6 49 2 (0) (v7)).bind fun M8 =>
    fX5_square_172L   FU (x1) (0) M8
  else
  some (((-10)) - (M.1 42 14), M)
def fX5_square_73B (k73 : Int32 → Mem → Option (Int32 × Mem)) (x1 : Int32) (M : Mem) : Option (Int32 × Mem) :=
  if (M.1 42 14) = ((-9)) then
  if (M.1 42 12) = 4 then
    fX5_square_105   (x1) M
    else
    (fX5_item  (M.1 42 12) (x1) M).bind fun v1 =>
      k73 (x1 + 1) v1
  else
  fX5_square_105   (x1) M
def fX5_square_73L    : Nat → Int32 → Mem → Option (Int32 × Mem)
  | 0 => fun _ _ => none
  | n + 1 => fun x1 M => fX5_square_73B  (fX5_square_73L   n)  x1 M
def fX5_square_43B (k43 : Int32 → Mem → Option (Int32 × Mem)) (x1 : Int32) (M : Mem) : Option (Int32 × Mem) :=
  if 144 ≤ x1 then
  (fX5_next   M).bind fun v1 =>
    fX5_square_73L   FU (0) v1
  else
  (wZ M 46 288 (144 + x1) (0)).bind fun M2 =>
    k43 (x1 + 1) M2
def fX5_square_43L    : Nat → Int32 → Mem → Option (Int32 × Mem)
  | 0 => fun _ _ => none
  | n + 1 => fun x1 M => fX5_square_43B  (fX5_square_43L   n)  x1 M
def fX5_square   (M : Mem) : Option (Int32 × Mem) :=
  (wF M 42 10 (0)).bind fun M1 =>
  (wF M1 42 14 ((-9))).bind fun M2 =>
  (wI M2 44 2 (1) (8)).bind fun M3 =>
  (wI M3 45 2 (1) (8)).bind fun M4 =>
  (wI M4 47 2 (1) (0)).bind fun M5 =>
  (wI M5 49 2 (1) (0)).bind fun M6 =>
  fX5_square_43L   FU (0) M6

def fX5_isOn  (x1 : Int32) (x2 : Int32) (M : Mem) : Option Int32 :=
  (rI M 44 2 (0)).bind fun v1 =>
  (fX5_in  (x1) (0) (v1 - 1)).bind fun v2 =>
  if v2 = 0 then
  some (0)
  else
  (rI M 45 2 (0)).bind fun v3 =>
    (fX5_in  (x2) (0) (v3 - 1)).bind fun v4 =>
    if v4 = 0 then
    some (0)
    else
    some (1)

def fX5_isWall  (x1 : Int32) (x2 : Int32) (M : Mem) : Option Int32 :=
  (fX5_isOn  (x1) (x2) M).bind fun v1 =>
  if v1 = 0 then
  some (0)
  else
  (rI M 46 288 ((12 * x2) + x1)).bind fun v2 =>
    if v2 = 0 then
    some (0)
    else
    some (1)

def fX5_isPerson  (x1 : Int32) (M : Mem) : Option Int32 :=
  (rI M 47 2 (0)).bind fun v1 =>
  (fX5_in  (x1) (0) (v1 - 1)).bind fun v2 =>
  (gB (v2)).bind fun vb =>
  some vb

def fX5_isPicture  (x1 : Int32) (M : Mem) : Option Int32 :=
  (rI M 49 2 (0)).bind fun v1 =>
  (fX5_in  (x1) (0) (v1 - 1)).bind fun v2 =>
  (gB (v2)).bind fun vb =>
  some vb

def fX5_wall  (x1 : Int32) (x2 : Int32) (M : Mem) : Option Int32 :=
  (fX5_isOn  (x1) (x2) M).bind fun v1 =>
  if v1 = 0 then
  some ((-1))
  else
  (fX5_isWall  (x1) (x2) M).bind fun v2 =>
    if v2 = 0 then
    some (0)
    else
    some (1)

def fX5_person  (x1 : Int32) (x2 : Int32) (M : Mem) : Option Int32 :=
  (fX5_isPerson  (x1) M).bind fun v1 =>
  if v1 = 0 then
  some ((-1))
  else
  (fX5_in  (x2) (0) (5)).bind fun v2 =>
    if v2 = 0 then
    some ((-1))
    else
    (rI M 48 96 ((6 * x1) + x2)).bind fun v3 =>
      some (v3)

def fX5_picture  (x1 : Int32) (x2 : Int32) (M : Mem) : Option Int32 :=
  (fX5_isPicture  (x1) M).bind fun v1 =>
  if v1 = 0 then
  some ((-1))
  else
  (fX5_in  (x2) (0) (4)).bind fun v2 =>
    if v2 = 0 then
    some ((-1))
    else
    (rI M 50 100 ((5 * x1) + x2)).bind fun v3 =>
      some (v3)

def fX5_asideOf  (x0 : Int32)  : Option Int32 :=
  if x0 = 0 then
  some (1)
  else
  if x0 = 2 then
    some ((-1))
    else
    some (0)

def fX5_downOf  (x0 : Int32)  : Option Int32 :=
  if x0 = 1 then
  some (1)
  else
  if x0 = 3 then
    some ((-1))
    else
    some (0)

def fX5_cellOf  (x1 : Int32) (x2 : Int32) (M : Mem) : Option Int32 :=
  (rI M 48 96 ((6 * x1) + 3)).bind fun v1 =>
  (rI M 48 96 ((6 * x1) + 4)).bind fun v2 =>
  (fX5_in  (x2 - v1) (0) (v2)).bind fun v3 =>
  if v3 = 0 then
  some ((-9))
  else
  (rI M 48 96 ((6 * x1) + 2)).bind fun v4 =>
    (rI M 48 96 (6 * x1)).bind fun v5 =>
    (fX5_asideOf  (v4)).bind fun v6 =>
    (rI M 48 96 ((6 * x1) + 1)).bind fun v7 =>
    (fX5_downOf  (v4)).bind fun v8 =>
    (fX5_isOn  (v5 + ((x2 - v1) * v6)) (v7 + ((x2 - v1) * v8)) M).bind fun v9 =>
    if v9 = 0 then
    some ((-9))
    else
    (fX5_isWall  (v5 + ((x2 - v1) * v6)) (v7 + ((x2 - v1) * v8)) M).bind fun v10 =>
      if v10 = 0 then
      (rI M 44 2 (0)).bind fun v11 =>
        some ((v11 * (v7 + ((x2 - v1) * v8))) + (v5 + ((x2 - v1) * v6)))
      else
      some ((-9))

def fX5_thoseOn_56 (k6 : Int32 → Int32 → Int32 → Int32 → Int32 → Option Int32) (x1 : Int32) (x2 : Int32) (x3 : Int32) (x5 : Int32) (s0 : Int32) (s1 : Int32) (M : Mem) : Option Int32 :=
  k6 (x1) (x2) (x3) (s1 ||| s0) (x5 + 1)
def fX5_thoseOn_6B (k6 : Int32 → Int32 → Int32 → Int32 → Int32 → Option Int32) (x1 : Int32) (x2 : Int32) (x3 : Int32) (x4 : Int32) (x5 : Int32) (M : Mem) : Option Int32 :=
  (rI M 47 2 (0)).bind fun v1 =>
  if v1 ≤ x5 then
  some (x4)
  else
  (fX5_isOn  (x1) (x2) M).bind fun v2 =>
    if v2 = 0 then
    some (x4)
    else
    (fX5_cellOf  (x5) (x3) M).bind fun v3 =>
      (rI M 44 2 (0)).bind fun v4 =>
      if v3 = ((v4 * x2) + x1) then
      fX5_thoseOn_56 k6  (x1) (x2) (x3) (x5) (1 <<< (x5 &&& 31)) (x4) M
      else
      fX5_thoseOn_56 k6  (x1) (x2) (x3) (x5) (0) (x4) M
def fX5_thoseOn_6L   (M : Mem) : Nat → Int32 → Int32 → Int32 → Int32 → Int32 → Option Int32
  | 0 => fun _ _ _ _ _ => none
  | n + 1 => fun x1 x2 x3 x4 x5 => fX5_thoseOn_6B  (fX5_thoseOn_6L   M n)  x1 x2 x3 x4 x5 M
def fX5_thoseOn  (x1 : Int32) (x2 : Int32) (x3 : Int32) (M : Mem) : Option Int32 :=
  fX5_thoseOn_6L   M FU (x1) (x2) (x3) (0) (0)

def fX5_where  (x1 : Int32) (x2 : Int32) (M : Mem) : Option Int32 :=
  (fX5_isPerson  (x1) M).bind fun v1 =>
  if v1 = 0 then
  some ((-1))
  else
  (fX5_in  (x2) (0) (199)).bind fun v2 =>
    if v2 = 0 then
    some ((-1))
    else
    (fX5_cellOf  (x1) (x2) M).bind fun v3 =>
      some (v3)

def fX5_on  (x1 : Int32) (x2 : Int32) (x3 : Int32) (M : Mem) : Option Int32 :=
  (fX5_isOn  (x1) (x2) M).bind fun v1 =>
  if v1 = 0 then
  some ((-1))
  else
  (fX5_in  (x3) (0) (199)).bind fun v2 =>
    if v2 = 0 then
    some ((-1))
    else
    (fX5_thoseOn  (x1) (x2) (x3) M).bind fun v3 =>
      some (v3)

def fX5_xAt  (x1 : Int32) (x2 : Int32) (M : Mem) : Option Int32 :=
  (fX5_asideOf  (M.1 42 17)).bind fun v1 =>
  (fX5_asideOf  (((M.1 42 17) + 1) - ((M.1 42 17) + 1) / 4 * 4)).bind fun v2 =>
  some (((M.1 42 15) + (x1 * v1)) + (x2 * v2))

def fX5_yAt  (x1 : Int32) (x2 : Int32) (M : Mem) : Option Int32 :=
  (fX5_downOf  (M.1 42 17)).bind fun v1 =>
  (fX5_downOf  (((M.1 42 17) + 1) - ((M.1 42 17) + 1) / 4 * 4)).bind fun v2 =>
  some (((M.1 42 16) + (x1 * v1)) + (x2 * v2))

def fX5_hides_2B (k2 : Int32 → Int32 → Int32 → Option Int32) (x1 : Int32) (x2 : Int32) (x3 : Int32) (M : Mem) : Option Int32 :=
  if x1 ≤ x3 then
  some (1)
  else
  (oD (x2 * x3) (x1)).bind fun v1 =>
    (fX5_xAt  (x3) (v1) M).bind fun v2 =>
    (oD (x2 * x3) (x1)).bind fun v3 =>
    (fX5_yAt  (x3) (v3) M).bind fun v4 =>
    (fX5_isWall  (v2) (v4) M).bind fun v5 =>
    if v5 = 0 then
    (fX5_thoseOn  (v2) (v4) (M.1 42 18) M).bind fun v6 =>
      if v6 = 0 then
      k2 (x1) (x2) (x3 + 1)
      else
      some (3)
    else
    some (2)
def fX5_hides_2L   (M : Mem) : Nat → Int32 → Int32 → Int32 → Option Int32
  | 0 => fun _ _ _ => none
  | n + 1 => fun x1 x2 x3 => fX5_hides_2B  (fX5_hides_2L   M n)  x1 x2 x3 M
def fX5_hides  (x1 : Int32) (x2 : Int32) (M : Mem) : Option Int32 :=
  fX5_hides_2L   M FU (x1) (x2) (1)

def fX5_lookFrom  (x1 : Int32) (x2 : Int32) (x3 : Int32) (x4 : Int32) (M : Mem) : Option Mem :=
  (wF M 42 15 (x1)).bind fun M1 =>
  (wF M1 42 16 (x2)).bind fun M2 =>
  (wF M2 42 17 (x3)).bind fun M3 =>
  (wF M3 42 18 (x4)).bind fun M4 =>
  some M4

def fX5_lookAs  (x1 : Int32) (x2 : Int32) (M : Mem) : Option Mem :=
  (rI M 50 100 (5 * x1)).bind fun v1 =>
  (rI M 50 100 ((5 * x1) + 1)).bind fun v2 =>
  (rI M 50 100 ((5 * x1) + 2)).bind fun v3 =>
  (fX5_lookFrom  (v1) (v2) (v3) (x2) M).bind fun v4 =>
  some v4

def fX5_shown_70 (k4 : Int32 → Int32 → Int32 → Option Int32) (k15 : Int32 → Int32 → Int32 → Int32 → Option Int32) (x1 : Int32) (x3 : Int32) (x4 : Int32) (s0 : Int32) (s1 : Int32) (M : Mem) : Option Int32 :=
  k15 (x1) (s1 ||| s0) (x3) (x4 + 1)
def fX5_shown_69 (k4 : Int32 → Int32 → Int32 → Option Int32) (k15 : Int32 → Int32 → Int32 → Int32 → Option Int32) (x1 : Int32) (x3 : Int32) (x4 : Int32) (s0 : Int32) (M : Mem) : Option Int32 :=
  fX5_shown_70 k4 k15  (x1) (x3) (x4) (0) (s0) M
def fX5_shown_15B (k4 : Int32 → Int32 → Int32 → Option Int32) (k15 : Int32 → Int32 → Int32 → Int32 → Option Int32) (x1 : Int32) (x2 : Int32) (x3 : Int32) (x4 : Int32) (M : Mem) : Option Int32 :=
  if (x3 / 2) < x4 then
  k4 (x1) (x2) (x3 + 1)
  else
  (fX5_xAt  (x3) (x4) M).bind fun v1 =>
    (fX5_yAt  (x3) (x4) M).bind fun v2 =>
    (fX5_thoseOn  (v1) (v2) (M.1 42 18) M).bind fun v3 =>
    if v3 = 0 then
    fX5_shown_69 k4 k15  (x1) (x3) (x4) (x2) M
    else
    (fX5_hides  (x3) (x4) M).bind fun v4 =>
      if v4 = 1 then
      fX5_shown_70 k4 k15  (x1) (x3) (x4) (v3) (x2) M
      else
      fX5_shown_69 k4 k15  (x1) (x3) (x4) (x2) M
def fX5_shown_15L (k4 : Int32 → Int32 → Int32 → Option Int32)  (M : Mem) : Nat → Int32 → Int32 → Int32 → Int32 → Option Int32
  | 0 => fun _ _ _ _ => none
  | n + 1 => fun x1 x2 x3 x4 => fX5_shown_15B k4 (fX5_shown_15L k4  M n)  x1 x2 x3 x4 M
def fX5_shown_4B (k4 : Int32 → Int32 → Int32 → Option Int32) (x1 : Int32) (x2 : Int32) (x3 : Int32) (M : Mem) : Option Int32 :=
  if x1 < x3 then
  some (x2)
  else
  fX5_shown_15L k4  M FU (x1) (x2) (x3) (-(x3 / 2))
def fX5_shown_4L   (M : Mem) : Nat → Int32 → Int32 → Int32 → Option Int32
  | 0 => fun _ _ _ => none
  | n + 1 => fun x1 x2 x3 => fX5_shown_4B  (fX5_shown_4L   M n)  x1 x2 x3 M
def fX5_shown  (x1 : Int32) (M : Mem) : Option Int32 :=
  fX5_shown_4L   M FU (x1) (0) (1)

def fX5_showsOf  (x1 : Int32) (M : Mem) : Option (Int32 × Mem) :=
  (rI M 50 100 ((5 * x1) + 4)).bind fun v1 =>
  (fX5_lookAs  (x1) (v1) M).bind fun v2 =>
  (rI v2 50 100 ((5 * x1) + 3)).bind fun v3 =>
  (fX5_shown  (v3) v2).bind fun v4 =>
  some (v4, v2)

def fX5_shows  (x1 : Int32) (M : Mem) : Option (Int32 × Mem) :=
  (fX5_isPicture  (x1) M).bind fun v1 =>
  if v1 = 0 then
  some ((-1), M)
  else
  (fX5_showsOf  (x1) M).bind fun v2 =>
    some (v2.1, v2.2)

def fX5_view  (x1 : Int32) (x2 : Int32) (x3 : Int32) (x4 : Int32) (x5 : Int32) (M : Mem) : Option (Int32 × Mem) :=
  (fX5_isOn  (x1) (x2) M).bind fun v1 =>
  if v1 = 0 then
  some ((-1), M)
  else
  (fX5_in  (x3) (0) (3)).bind fun v2 =>
    if v2 = 0 then
    some ((-1), M)
    else
    (fX5_in  (x4) (1) (9)).bind fun v3 =>
      if v3 = 0 then
      some ((-1), M)
      else
      (fX5_in  (x5) (0) (199)).bind fun v4 =>
        if v4 = 0 then
        some ((-1), M)
        else
        (fX5_lookFrom  (x1) (x2) (x3) (x5) M).bind fun v5 =>
          (fX5_shown  (x4) v5).bind fun v6 =>
          some (v6, v5)

def fX5_aheadOf_13B (k2 : Int32 → Int32 → Int32 → Mem → Option (Int32 × Mem)) (k13 : Int32 → Int32 → Int32 → Int32 → Mem → Option (Int32 × Mem)) (x1 : Int32) (x2 : Int32) (x3 : Int32) (x4 : Int32) (M : Mem) : Option (Int32 × Mem) :=
  if (x3 / 2) < x4 then
  k2 (x1) (x2) (x3 + 1) M
  else
  (fX5_xAt  (x3) (x4) M).bind fun v1 =>
    (fX5_yAt  (x3) (x4) M).bind fun v2 =>
    (fX5_thoseOn  (v1) (v2) (M.1 42 18) M).bind fun v3 =>
    if ((v3 >>> (x1 &&& 31)) &&& 1) = 1 then
    (wF M 42 19 (x4)).bind fun M4 =>
      some (x3, M4)
    else
    k13 (x1) (x2) (x3) (x4 + 1) M
def fX5_aheadOf_13L (k2 : Int32 → Int32 → Int32 → Mem → Option (Int32 × Mem))   : Nat → Int32 → Int32 → Int32 → Int32 → Mem → Option (Int32 × Mem)
  | 0 => fun _ _ _ _ _ => none
  | n + 1 => fun x1 x2 x3 x4 M => fX5_aheadOf_13B k2 (fX5_aheadOf_13L k2  n)  x1 x2 x3 x4 M
def fX5_aheadOf_2B (k2 : Int32 → Int32 → Int32 → Mem → Option (Int32 × Mem)) (x1 : Int32) (x2 : Int32) (x3 : Int32) (M : Mem) : Option (Int32 × Mem) :=
  if x2 < x3 then
  some (0, M)
  else
  fX5_aheadOf_13L k2  FU (x1) (x2) (x3) (-(x3 / 2)) M
def fX5_aheadOf_2L    : Nat → Int32 → Int32 → Int32 → Mem → Option (Int32 × Mem)
  | 0 => fun _ _ _ _ => none
  | n + 1 => fun x1 x2 x3 M => fX5_aheadOf_2B  (fX5_aheadOf_2L   n)  x1 x2 x3 M
def fX5_aheadOf  (x1 : Int32) (x2 : Int32) (M : Mem) : Option (Int32 × Mem) :=
  fX5_aheadOf_2L   FU (x1) (x2) (1) M

def fX5_hidden  (x1 : Int32) (x2 : Int32) (M : Mem) : Option (Int32 × Mem) :=
  (fX5_isPicture  (x1) M).bind fun v1 =>
  if v1 = 0 then
  some ((-1), M)
  else
  (fX5_isPerson  (x2) M).bind fun v2 =>
    if v2 = 0 then
    some ((-1), M)
    else
    (rI M 50 100 ((5 * x1) + 4)).bind fun v3 =>
      (fX5_lookAs  (x1) (v3) M).bind fun v4 =>
      (rI v4 50 100 ((5 * x1) + 3)).bind fun v5 =>
      (fX5_aheadOf  (x2) (v5) v4).bind fun v6 =>
      if v6.1 = 0 then
      some (0, v6.2)
      else
      (fX5_hides  (v6.1) (v6.2.1 42 19) v6.2).bind fun v7 =>
        some (v7, v6.2)

def fX5_isSet  (x1 : Int32) (M : Mem) : Option Int32 :=
  (rI M 47 2 (0)).bind fun v1 =>
  (fX5_in  (x1) (0) ((1 <<< (v1 &&& 31)) - 1)).bind fun v2 =>
  (gB (v2)).bind fun vb =>
  some vb

def fX5_from_147 (k51 : Int32 → Int32 → Int32 → Int32 → Int32 → Int32 → Int32 → Mem → Option (Int32 × Mem)) (x1 : Int32) (x2 : Int32) (x3 : Int32) (x4 : Int32) (x5 : Int32) (x6 : Int32) (x7 : Int32) (M : Mem) : Option (Int32 × Mem) :=
  k51 (x1) (x2) (x3) (x4) (x5) (x6) (x7 + 1) M
def fX5_from_142 (k51 : Int32 → Int32 → Int32 → Int32 → Int32 → Int32 → Int32 → Mem → Option (Int32 × Mem)) (x1 : Int32) (x2 : Int32) (x3 : Int32) (x4 : Int32) (x5 : Int32) (x7 : Int32) (s0 : Int32) (M : Mem) : Option (Int32 × Mem) :=
  fX5_from_147 k51  (x1) (x2) (x3) (x4) (x5 + 1) (s0) (x7) M
def fX5_from_51B (k51 : Int32 → Int32 → Int32 → Int32 → Int32 → Int32 → Int32 → Mem → Option (Int32 × Mem)) (x1 : Int32) (x2 : Int32) (x3 : Int32) (x4 : Int32) (x5 : Int32) (x6 : Int32) (x7 : Int32) (M : Mem) : Option (Int32 × Mem) :=
  (rI M 44 2 (0)).bind fun v1 =>
  (rI M 45 2 (0)).bind fun v2 =>
  if ((4 * v1) * v2) ≤ x7 then
  if x4 = 0 then
    some (x5, M)
    else
    some (x6, M)
  else
  (rI M 44 2 (0)).bind fun v3 =>
    (oR (x7 / 4) (v3)).bind fun v4 =>
    (rI M 44 2 (0)).bind fun v5 =>
    (oD (x7 / 4) (v5)).bind fun v6 =>
    (fX5_isWall  (v4) (v6) M).bind fun v7 =>
    if v7 = 0 then
    (fX5_lookFrom  (v4) (v6) (x7 - x7 / 4 * 4) (x3) M).bind fun v8 =>
      (fX5_shown  (x2) v8).bind fun v9 =>
      if v9 = x1 then
      if x5 = 0 then
        fX5_from_142 k51  (x1) (x2) (x3) (x4) (x5) (x7) (x7) v8
        else
        fX5_from_142 k51  (x1) (x2) (x3) (x4) (x5) (x7) (x6) v8
      else
      fX5_from_147 k51  (x1) (x2) (x3) (x4) (x5) (x6) (x7) v8
    else
    fX5_from_147 k51  (x1) (x2) (x3) (x4) (x5) (x6) (x7) M
def fX5_from_51L    : Nat → Int32 → Int32 → Int32 → Int32 → Int32 → Int32 → Int32 → Mem → Option (Int32 × Mem)
  | 0 => fun _ _ _ _ _ _ _ _ => none
  | n + 1 => fun x1 x2 x3 x4 x5 x6 x7 M => fX5_from_51B  (fX5_from_51L   n)  x1 x2 x3 x4 x5 x6 x7 M
def fX5_from  (x1 : Int32) (x2 : Int32) (x3 : Int32) (x4 : Int32) (M : Mem) : Option (Int32 × Mem) :=
  (fX5_isSet  (x1) M).bind fun v1 =>
  if v1 = 0 then
  some ((-1), M)
  else
  (fX5_in  (x2) (1) (9)).bind fun v2 =>
    if v2 = 0 then
    some ((-1), M)
    else
    (fX5_in  (x3) (0) (199)).bind fun v3 =>
      if v3 = 0 then
      some ((-1), M)
      else
      (fX5_in  (x4) (0) (1)).bind fun v4 =>
        if v4 = 0 then
        some ((-1), M)
        else
        fX5_from_51L   FU (x1) (x2) (x3) (x4) (0) ((-9)) (0) M

def fX5_fact  (x1 : Int32) (x2 : Int32) (x3 : Int32) (x4 : Int32) (M : Mem) : Option (Int32 × Mem) :=
  (fX5_in  (x1) (0) (3)).bind fun v1 =>
  if v1 = 0 then
  some ((-1), M)
  else
  (fX5_in  (x3) (0) (3)).bind fun v2 =>
    if v2 = 0 then
    some ((-1), M)
    else
    if x1 = x3 then
      some ((-1), M)
      else
      (fX5_in  (x2) (0) (99)).bind fun v3 =>
        if v3 = 0 then
        some ((-1), M)
        else
        (fX5_in  (x4) (0) (99)).bind fun v4 =>
          if v4 = 0 then
          some ((-1), M)
          else
          (rI M 51 3 (0)).bind fun v5 =>
            if v5 = 20 then
            some ((-3), M)
            else
            (wI M 52 60 (v5) (x1)).bind fun M6 =>
              (wI M6 53 60 (v5) (x2)).bind fun M7 =>
              (wI M7 54 60 (v5) (x3)).bind fun M8 =>
              (wI M8 55 60 (v5) (x4)).bind fun M9 =>
              (rI M9 51 3 (0)).bind fun v10 =>
              (wI M9 51 3 (0) (v10 + 1)).bind fun M11 =>
              some (v5 + 1, M11)

def fX5_heldNow_59 (k4 : Int32 → Int32 → Option Int32) (x2 : Int32) (s0 : Int32) (s1 : Int32) (M : Mem) : Option Int32 :=
  k4 (s1 + s0) (x2 + 1)
def fX5_heldNow_4B (k4 : Int32 → Int32 → Option Int32) (x1 : Int32) (x2 : Int32) (M : Mem) : Option Int32 :=
  (rI M 51 3 (0)).bind fun v1 =>
  if v1 ≤ x2 then
  some (x1)
  else
  (rI M 55 60 (x2)).bind fun v2 =>
    (rI M 53 60 (x2)).bind fun v3 =>
    (rI M 54 60 (x2)).bind fun v4 =>
    (rI M 63 4 (v4)).bind fun v5 =>
    (rI M 52 60 (x2)).bind fun v6 =>
    (rI M 63 4 (v6)).bind fun v7 =>
    if (v2 - v3) = (v5 - v7) then
    fX5_heldNow_59 k4  (x2) (1) (x1) M
    else
    fX5_heldNow_59 k4  (x2) (0) (x1) M
def fX5_heldNow_4L   (M : Mem) : Nat → Int32 → Int32 → Option Int32
  | 0 => fun _ _ => none
  | n + 1 => fun x1 x2 => fX5_heldNow_4B  (fX5_heldNow_4L   M n)  x1 x2 M
def fX5_heldNow   (M : Mem) : Option Int32 :=
  fX5_heldNow_4L   M FU (0) (0)

def fX5_right_109 (k16 : Int32 → Int32 → Int32 → Mem → Option (Int32 × Mem)) (x1 : Int32) (x2 : Int32) (x3 : Int32) (M : Mem) : Option (Int32 × Mem) :=
  k16 (x1) (x2) (x3 + 1) M
def fX5_right_83B (k16 : Int32 → Int32 → Int32 → Mem → Option (Int32 × Mem)) (k83 : Int32 → Int32 → Int32 → Int32 → Mem → Option (Int32 × Mem)) (x1 : Int32) (x2 : Int32) (x3 : Int32) (x5 : Int32) (M : Mem) : Option (Int32 × Mem) :=
  if 4 ≤ x5 then
  fX5_right_109 k16  (x1) (x2) (x3) M
  else
  (rI M 63 4 (x5)).bind fun v1 =>
    (wI M 64 4 (x5) (v1)).bind fun M2 =>
    k83 (x1) (x2) (x3) (x5 + 1) M2
def fX5_right_83L (k16 : Int32 → Int32 → Int32 → Mem → Option (Int32 × Mem))   : Nat → Int32 → Int32 → Int32 → Int32 → Mem → Option (Int32 × Mem)
  | 0 => fun _ _ _ _ _ => none
  | n + 1 => fun x1 x2 x3 x5 M => fX5_right_83B k16 (fX5_right_83L k16  n)  x1 x2 x3 x5 M
def fX5_right_16B (k16 : Int32 → Int32 → Int32 → Mem → Option (Int32 × Mem)) (x1 : Int32) (x2 : Int32) (x3 : Int32) (M : Mem) : Option (Int32 × Mem) :=
  if 68921 ≤ x3 then
  if x1 = 0 then
    (rI M 51 3 (0)).bind fun v2 =>
      some (v2 - x2, M)
    else
    (rI M 64 4 (x1)).bind fun v1 =>
      some (v1, M)
  else
  (wI M 63 4 (1) ((x3 / 1681) - 20)).bind fun M3 =>
    (wI M3 63 4 (2) (((x3 / 41) - (x3 / 41) / 41 * 41) - 20)).bind fun M4 =>
    (wI M4 63 4 (3) ((x3 - x3 / 41 * 41) - 20)).bind fun M5 =>
    (fX5_heldNow   M5).bind fun v6 =>
    if v6 ≤ x2 then
    fX5_right_109 k16  (x1) (x2) (x3) M5
    else
    fX5_right_83L k16  FU (x1) (v6) (x3) (1) M5
def fX5_right_16L    : Nat → Int32 → Int32 → Int32 → Mem → Option (Int32 × Mem)
  | 0 => fun _ _ _ _ => none
  | n + 1 => fun x1 x2 x3 M => fX5_right_16B  (fX5_right_16L   n)  x1 x2 x3 M
def fX5_right  (x1 : Int32) (M : Mem) : Option (Int32 × Mem) :=
  (fX5_in  (x1) (0) (3)).bind fun v1 =>
  if v1 = 0 then
  some ((-1000000), M)
  else
  fX5_right_16L   FU (x1) ((-1)) (0) M

def fX5_seen  (x1 : Int32) (x2 : Int32) (x3 : Int32) (x4 : Int32) (M : Mem) : Option (Int32 × Mem) :=
  (fX5_isOn  (x1) (x2) M).bind fun v1 =>
  if v1 = 0 then
  some ((-1), M)
  else
  (fX5_in  (x3) (0) (99)).bind fun v2 =>
    if v2 = 0 then
    some ((-1), M)
    else
    (fX5_in  (x4) (0) (9)).bind fun v3 =>
      if v3 = 0 then
      some ((-1), M)
      else
      (rI M 56 3 (0)).bind fun v4 =>
        if v4 = 8 then
        some ((-3), M)
        else
        (wI M 57 24 (v4) (x1)).bind fun M5 =>
          (wI M5 58 24 (v4) (x2)).bind fun M6 =>
          (wI M6 59 24 (v4) (x3)).bind fun M7 =>
          (wI M7 60 24 (v4) (x4)).bind fun M8 =>
          (rI M8 56 3 (0)).bind fun v9 =>
          (wI M8 56 3 (0) (v9 + 1)).bind fun M10 =>
          some (v4 + 1, M10)

def fX5_size  (x0 : Int32)  : Option Int32 :=
  if 0 ≤ x0 then
  some (x0)
  else
  some (-x0)

def fX5_isOne_82   (M : Mem) : Option Int32 :=
  some (1)
def fX5_isOne  (x1 : Int32) (x2 : Int32) (M : Mem) : Option Int32 :=
  (rI M 57 24 (x1)).bind fun v1 =>
  (rI M 57 24 (x2)).bind fun v2 =>
  (fX5_size  (v1 - v2)).bind fun v3 =>
  (rI M 58 24 (x1)).bind fun v4 =>
  (rI M 58 24 (x2)).bind fun v5 =>
  (fX5_size  (v4 - v5)).bind fun v6 =>
  (rI M 59 24 (x1)).bind fun v7 =>
  (rI M 59 24 (x2)).bind fun v8 =>
  (fX5_size  (v7 - v8)).bind fun v9 =>
  (rI M 60 24 (x1)).bind fun v10 =>
  (rI M 60 24 (x2)).bind fun v11 =>
  if v10 = v11 then
  if v9 < (v3 + v6) then
    some (0)
    else
    if 0 < v9 then
      fX5_isOne_82    M
      else
      if (v3 + v6) = 0 then
        fX5_isOne_82    M
        else
        some (0)
  else
  some (0)

def fX5_isChain_90 (k5 : Int32 → Int32 → Option Int32) (x2 : Int32) (x4 : Int32) (M : Mem) : Option Int32 :=
  k5 (x2 &&& ((1 <<< (x4 &&& 31)) ^^^ ((-1)))) (x4)
def fX5_isChain_64 (k5 : Int32 → Int32 → Option Int32) (k16 : Int32 → Int32 → Int32 → Int32 → Option Int32) (x2 : Int32) (x3 : Int32) (x5 : Int32) (s0 : Int32) (M : Mem) : Option Int32 :=
  k16 (x2) (x3) (s0) (x5 + 1)
def fX5_isChain_62 (k5 : Int32 → Int32 → Option Int32) (k16 : Int32 → Int32 → Int32 → Int32 → Option Int32) (x2 : Int32) (x3 : Int32) (x4 : Int32) (x5 : Int32) (M : Mem) : Option Int32 :=
  fX5_isChain_64 k5 k16  (x2) (x3) (x5) (x4) M
def fX5_isChain_57 (k5 : Int32 → Int32 → Option Int32) (k16 : Int32 → Int32 → Int32 → Int32 → Option Int32) (x2 : Int32) (x3 : Int32) (x5 : Int32) (M : Mem) : Option Int32 :=
  fX5_isChain_64 k5 k16  (x2) (x3) (x5) (x5) M
def fX5_isChain_16B (k5 : Int32 → Int32 → Option Int32) (k16 : Int32 → Int32 → Int32 → Int32 → Option Int32) (x2 : Int32) (x3 : Int32) (x4 : Int32) (x5 : Int32) (M : Mem) : Option Int32 :=
  if 8 ≤ x5 then
  if x3 = ((-9)) then
    fX5_isChain_90 k5  (x2) (x4) M
    else
    (fX5_isOne  (x3) (x4) M).bind fun v1 =>
      if v1 = 0 then
      some (0)
      else
      fX5_isChain_90 k5  (x2) (x4) M
  else
  if ((x2 >>> (x5 &&& 31)) &&& 1) = 1 then
    if x4 = ((-9)) then
      fX5_isChain_57 k5 k16  (x2) (x3) (x5) M
      else
      (rI M 59 24 (x5)).bind fun v2 =>
        (rI M 59 24 (x4)).bind fun v3 =>
        if v3 ≤ v2 then
        fX5_isChain_62 k5 k16  (x2) (x3) (x4) (x5) M
        else
        fX5_isChain_57 k5 k16  (x2) (x3) (x5) M
    else
    fX5_isChain_62 k5 k16  (x2) (x3) (x4) (x5) M
def fX5_isChain_16L (k5 : Int32 → Int32 → Option Int32)  (M : Mem) : Nat → Int32 → Int32 → Int32 → Int32 → Option Int32
  | 0 => fun _ _ _ _ => none
  | n + 1 => fun x2 x3 x4 x5 => fX5_isChain_16B k5 (fX5_isChain_16L k5  M n)  x2 x3 x4 x5 M
def fX5_isChain_5B (k5 : Int32 → Int32 → Option Int32) (x2 : Int32) (x3 : Int32) (M : Mem) : Option Int32 :=
  if x2 = 0 then
  some (1)
  else
  fX5_isChain_16L k5  M FU (x2) (x3) ((-9)) (0)
def fX5_isChain_5L   (M : Mem) : Nat → Int32 → Int32 → Option Int32
  | 0 => fun _ _ => none
  | n + 1 => fun x2 x3 => fX5_isChain_5B  (fX5_isChain_5L   M n)  x2 x3 M
def fX5_isChain  (x1 : Int32) (M : Mem) : Option Int32 :=
  fX5_isChain_5L   M FU (x1) ((-9))

def fX5_joined_73 (k13 : Int32 → Int32 → Mem → Option (Int32 × Mem)) (k28 : Int32 → Int32 → Int32 → Mem → Option (Int32 × Mem)) (x1 : Int32) (x2 : Int32) (x3 : Int32) (M : Mem) : Option (Int32 × Mem) :=
  k28 (x1) (x2) ((x3 - 1) &&& x2) M
def fX5_joined_28B (k13 : Int32 → Int32 → Mem → Option (Int32 × Mem)) (k28 : Int32 → Int32 → Int32 → Mem → Option (Int32 × Mem)) (x1 : Int32) (x2 : Int32) (x3 : Int32) (M : Mem) : Option (Int32 × Mem) :=
  if x3 ≤ 0 then
  k13 (x1) (x2 + 1) M
  else
  (rI M 65 256 (x2 &&& (x3 ^^^ ((-1))))).bind fun v1 =>
    (rI M 65 256 (x2)).bind fun v2 =>
    if v2 ≤ (v1 + 1) then
    fX5_joined_73 k13 k28  (x1) (x2) (x3) M
    else
    (fX5_isChain  (x3) M).bind fun v3 =>
      if v3 = 0 then
      fX5_joined_73 k13 k28  (x1) (x2) (x3) M
      else
      (wI M 65 256 (x2) (v1 + 1)).bind fun M4 =>
        fX5_joined_73 k13 k28  (x1) (x2) (x3) M4
def fX5_joined_28L (k13 : Int32 → Int32 → Mem → Option (Int32 × Mem))   : Nat → Int32 → Int32 → Int32 → Mem → Option (Int32 × Mem)
  | 0 => fun _ _ _ _ => none
  | n + 1 => fun x1 x2 x3 M => fX5_joined_28B k13 (fX5_joined_28L k13  n)  x1 x2 x3 M
def fX5_joined_13B (k13 : Int32 → Int32 → Mem → Option (Int32 × Mem)) (x1 : Int32) (x2 : Int32) (M : Mem) : Option (Int32 × Mem) :=
  if x1 < x2 then
  (rI M 65 256 (x1)).bind fun v1 =>
    some (v1, M)
  else
  (wI M 65 256 (x2) (99)).bind fun M2 =>
    fX5_joined_28L k13  FU (x1) (x2) (x2) M2
def fX5_joined_13L    : Nat → Int32 → Int32 → Mem → Option (Int32 × Mem)
  | 0 => fun _ _ _ => none
  | n + 1 => fun x1 x2 M => fX5_joined_13B  (fX5_joined_13L   n)  x1 x2 M
def fX5_joined   (M : Mem) : Option (Int32 × Mem) :=
  (rI M 56 3 (0)).bind fun v1 =>
  fX5_joined_13L   FU ((1 <<< (v1 &&& 31)) - 1) (1) M

def fX5_forget   (M : Mem) : Option (Int32 × Mem) :=
  (rI M 51 3 (0)).bind fun v1 =>
  (rI M 56 3 (0)).bind fun v2 =>
  (wI M 51 3 (0) (0)).bind fun M3 =>
  (wI M3 56 3 (0) (0)).bind fun M4 =>
  some (v1 + v2, M4)

def fX5_bitsIn_4B (k4 : Int32 → Int32 → Int32 → Option Int32) (x0 : Int32) (x1 : Int32) (x2 : Int32)  : Option Int32 :=
  if 10 ≤ x2 then
  some (x1)
  else
  k4 (x0) (x1 + ((x0 >>> (x2 &&& 31)) &&& 1)) (x2 + 1)
def fX5_bitsIn_4L    : Nat → Int32 → Int32 → Int32 → Option Int32
  | 0 => fun _ _ _ => none
  | n + 1 => fun x0 x1 x2 => fX5_bitsIn_4B  (fX5_bitsIn_4L   n)  x0 x1 x2
def fX5_bitsIn  (x0 : Int32)  : Option Int32 :=
  fX5_bitsIn_4L   FU (x0) (0) (0)

def fX5_common_4B (k4 : Int32 → Int32 → Option Int32) (x2 : Int32) (x3 : Int32)  : Option Int32 :=
  if x3 = 0 then
  some (x2)
  else
  (oR (x2) (x3)).bind fun v1 =>
    k4 (x3) (v1)
def fX5_common_4L    : Nat → Int32 → Int32 → Option Int32
  | 0 => fun _ _ => none
  | n + 1 => fun x2 x3 => fX5_common_4B  (fX5_common_4L   n)  x2 x3
def fX5_common  (x0 : Int32) (x1 : Int32)  : Option Int32 :=
  fX5_common_4L   FU (x0) (x1)

def fX5_all  (x1 : Int32) (x2 : Int32) (x3 : Int32) (M : Mem) : Option (Int32 × Mem) :=
  (fX5_isPicture  (x1) M).bind fun v1 =>
  if v1 = 0 then
  some ((-1), M)
  else
  (fX5_isPicture  (x2) M).bind fun v2 =>
    if v2 = 0 then
    some ((-1), M)
    else
    if x1 = x2 then
      some ((-1), M)
      else
      (fX5_in  (x3) (0) (1)).bind fun v3 =>
        if v3 = 0 then
        some ((-1), M)
        else
        (fX5_showsOf  (x1) M).bind fun v4 =>
          (fX5_showsOf  (x2) v4.2).bind fun v5 =>
          (fX5_bitsIn  (v4.1 &&& v5.1)).bind fun v6 =>
          if v6 = 0 then
          some ((-2), v5.2)
          else
          (fX5_bitsIn  (v4.1)).bind fun v7 =>
            (fX5_bitsIn  (v5.1)).bind fun v8 =>
            (fX5_common  (v7 * v8) (v6)).bind fun v9 =>
            if x3 = 0 then
            (oD (v7 * v8) (v9)).bind fun v11 =>
              some (v11, v5.2)
            else
            (oD (v6) (v9)).bind fun v10 =>
              some (v10, v5.2)

def fX5_has  (x1 : Int32) (x2 : Int32) (M : Mem) : Option (Int32 × Mem) :=
  (fX5_isPicture  (x1) M).bind fun v1 =>
  if v1 = 0 then
  some ((-1), M)
  else
  (fX5_in  (x2) (0) (2)).bind fun v2 =>
    if v2 = 0 then
    some ((-1), M)
    else
    (rI M 61 30 (x1)).bind fun v3 =>
      (wI M 61 30 (x1) (x2)).bind fun M4 =>
      some (v3, M4)

def fX5_withNow_53 (k5 : Int32 → Int32 → Option Int32) (x2 : Int32) (s0 : Int32) (M : Mem) : Option Int32 :=
  k5 (s0) (x2 + 1)
def fX5_withNow_52 (k5 : Int32 → Int32 → Option Int32) (x1 : Int32) (x2 : Int32) (M : Mem) : Option Int32 :=
  fX5_withNow_53 k5  (x2) (x1) M
def fX5_withNow_5B (k5 : Int32 → Int32 → Option Int32) (x1 : Int32) (x2 : Int32) (M : Mem) : Option Int32 :=
  (rI M 49 2 (0)).bind fun v1 =>
  if v1 ≤ x2 then
  some (x1)
  else
  (rI M 61 30 (x2)).bind fun v2 =>
    if v2 = 1 then
    (rI M 50 100 ((5 * x2) + 4)).bind fun v3 =>
      if v3 ≤ x1 then
      fX5_withNow_52 k5  (x1) (x2) M
      else
      (rI M 50 100 ((5 * x2) + 4)).bind fun v4 =>
        fX5_withNow_53 k5  (x2) (v4) M
    else
    fX5_withNow_52 k5  (x1) (x2) M
def fX5_withNow_5L   (M : Mem) : Nat → Int32 → Int32 → Option Int32
  | 0 => fun _ _ => none
  | n + 1 => fun x1 x2 => fX5_withNow_5B  (fX5_withNow_5L   M n)  x1 x2 M
def fX5_withNow   (M : Mem) : Option Int32 :=
  fX5_withNow_5L   M FU ((-9)) (0)

def fX5_withoutNow_65 (k10 : Int32 → Int32 → Int32 → Option Int32) (x1 : Int32) (x3 : Int32) (s0 : Int32) (M : Mem) : Option Int32 :=
  k10 (x1) (s0) (x3 + 1)
def fX5_withoutNow_64 (k10 : Int32 → Int32 → Int32 → Option Int32) (x1 : Int32) (x2 : Int32) (x3 : Int32) (M : Mem) : Option Int32 :=
  fX5_withoutNow_65 k10  (x1) (x3) (x2) M
def fX5_withoutNow_59 (k10 : Int32 → Int32 → Int32 → Option Int32) (x1 : Int32) (x3 : Int32) (x4 : Int32) (M : Mem) : Option Int32 :=
  fX5_withoutNow_65 k10  (x1) (x3) (x4) M
def fX5_withoutNow_10B (k10 : Int32 → Int32 → Int32 → Option Int32) (x1 : Int32) (x2 : Int32) (x3 : Int32) (M : Mem) : Option Int32 :=
  (rI M 49 2 (0)).bind fun v1 =>
  if v1 ≤ x3 then
  some (x2)
  else
  (rI M 50 100 ((5 * x3) + 4)).bind fun v2 =>
    (rI M 61 30 (x3)).bind fun v3 =>
    if v3 = 0 then
    if v2 ≤ x1 then
      fX5_withoutNow_64 k10  (x1) (x2) (x3) M
      else
      if x2 = ((-9)) then
        fX5_withoutNow_59 k10  (x1) (x3) (v2) M
        else
        if x2 ≤ v2 then
          fX5_withoutNow_64 k10  (x1) (x2) (x3) M
          else
          fX5_withoutNow_59 k10  (x1) (x3) (v2) M
    else
    fX5_withoutNow_64 k10  (x1) (x2) (x3) M
def fX5_withoutNow_10L   (M : Mem) : Nat → Int32 → Int32 → Int32 → Option Int32
  | 0 => fun _ _ _ => none
  | n + 1 => fun x1 x2 x3 => fX5_withoutNow_10B  (fX5_withoutNow_10L   M n)  x1 x2 x3 M
def fX5_withoutNow   (M : Mem) : Option Int32 :=
  (fX5_withNow   M).bind fun v1 =>
  fX5_withoutNow_10L   M FU (v1) ((-9)) (0)

def fX5_hat  (x1 : Int32) (M : Mem) : Option Int32 :=
  if x1 = 0 then
  (fX5_withNow   M).bind fun v2 =>
    some (v2)
  else
  if x1 = 1 then
    (fX5_withoutNow   M).bind fun v1 =>
      some (v1)
    else
    some ((-1))

def fX5_near_141 (k57 : Int32 → Int32 → Int32 → Int32 → Int32 → Int32 → Option Int32) (k67 : Int32 → Int32 → Int32 → Int32 → Int32 → Int32 → Int32 → Option Int32) (x1 : Int32) (x2 : Int32) (x3 : Int32) (x5 : Int32) (x7 : Int32) (x8 : Int32) (s0 : Int32) (s1 : Int32) (M : Mem) : Option Int32 :=
  k67 (x1) (x2) (x3) (x5) (s1 ||| s0) (x7) (x8 + 1)
def fX5_near_140 (k57 : Int32 → Int32 → Int32 → Int32 → Int32 → Int32 → Option Int32) (k67 : Int32 → Int32 → Int32 → Int32 → Int32 → Int32 → Int32 → Option Int32) (x1 : Int32) (x2 : Int32) (x3 : Int32) (x5 : Int32) (x7 : Int32) (x8 : Int32) (s0 : Int32) (M : Mem) : Option Int32 :=
  fX5_near_141 k57 k67  (x1) (x2) (x3) (x5) (x7) (x8) (0) (s0) M
def fX5_near_67B (k57 : Int32 → Int32 → Int32 → Int32 → Int32 → Int32 → Option Int32) (k67 : Int32 → Int32 → Int32 → Int32 → Int32 → Int32 → Int32 → Option Int32) (x1 : Int32) (x2 : Int32) (x3 : Int32) (x5 : Int32) (x6 : Int32) (x7 : Int32) (x8 : Int32) (M : Mem) : Option Int32 :=
  (rI M 47 2 (0)).bind fun v1 =>
  if v1 ≤ x8 then
  k57 (x1) (x2) (x3) (x5) (x6) (x7 + 1)
  else
  (fX5_cellOf  (x8) (x7) M).bind fun v2 =>
    if v2 = ((-9)) then
    fX5_near_140 k57 k67  (x1) (x2) (x3) (x5) (x7) (x8) (x6) M
    else
    (rI M 44 2 (0)).bind fun v3 =>
      (oR (v2) (v3)).bind fun v4 =>
      (fX5_size  (v4 - x1)).bind fun v5 =>
      if x3 < v5 then
      fX5_near_140 k57 k67  (x1) (x2) (x3) (x5) (x7) (x8) (x6) M
      else
      (rI M 44 2 (0)).bind fun v6 =>
        (oD (v2) (v6)).bind fun v7 =>
        (fX5_size  (v7 - x2)).bind fun v8 =>
        if x3 < v8 then
        fX5_near_140 k57 k67  (x1) (x2) (x3) (x5) (x7) (x8) (x6) M
        else
        fX5_near_141 k57 k67  (x1) (x2) (x3) (x5) (x7) (x8) (1 <<< (x8 &&& 31)) (x6) M
def fX5_near_67L (k57 : Int32 → Int32 → Int32 → Int32 → Int32 → Int32 → Option Int32)  (M : Mem) : Nat → Int32 → Int32 → Int32 → Int32 → Int32 → Int32 → Int32 → Option Int32
  | 0 => fun _ _ _ _ _ _ _ => none
  | n + 1 => fun x1 x2 x3 x5 x6 x7 x8 => fX5_near_67B k57 (fX5_near_67L k57  M n)  x1 x2 x3 x5 x6 x7 x8 M
def fX5_near_57B (k57 : Int32 → Int32 → Int32 → Int32 → Int32 → Int32 → Option Int32) (x1 : Int32) (x2 : Int32) (x3 : Int32) (x5 : Int32) (x6 : Int32) (x7 : Int32) (M : Mem) : Option Int32 :=
  if x5 < x7 then
  some (x6)
  else
  fX5_near_67L k57  M FU (x1) (x2) (x3) (x5) (x6) (x7) (0)
def fX5_near_57L   (M : Mem) : Nat → Int32 → Int32 → Int32 → Int32 → Int32 → Int32 → Option Int32
  | 0 => fun _ _ _ _ _ _ => none
  | n + 1 => fun x1 x2 x3 x5 x6 x7 => fX5_near_57B  (fX5_near_57L   M n)  x1 x2 x3 x5 x6 x7 M
def fX5_near  (x1 : Int32) (x2 : Int32) (x3 : Int32) (M : Mem) : Option Int32 :=
  (fX5_isOn  (x1) (x2) M).bind fun v1 =>
  if v1 = 0 then
  some ((-1))
  else
  (fX5_in  (x3) (0) (11)).bind fun v2 =>
    if v2 = 0 then
    some ((-1))
    else
    (fX5_withNow   M).bind fun v3 =>
      (fX5_withoutNow   M).bind fun v4 =>
      if v3 = ((-9)) then
      some ((-2))
      else
      if v4 = ((-9)) then
        some ((-2))
        else
        fX5_near_57L   M FU (x1) (x2) (x3) (v4) (0) (v3)

def fX5_isAlike_45 (k5 : Int32 → Int32 → Int32 → Int32 → Option Int32) (x1 : Int32) (x2 : Int32) (x4 : Int32) (s0 : Int32) (M : Mem) : Option Int32 :=
  k5 (x1) (x2) (s0) (x4 + 1)
def fX5_isAlike_44 (k5 : Int32 → Int32 → Int32 → Int32 → Option Int32) (x1 : Int32) (x2 : Int32) (x4 : Int32) (M : Mem) : Option Int32 :=
  fX5_isAlike_45 k5  (x1) (x2) (x4) (0) M
def fX5_isAlike_5B (k5 : Int32 → Int32 → Int32 → Int32 → Option Int32) (x1 : Int32) (x2 : Int32) (x3 : Int32) (x4 : Int32) (M : Mem) : Option Int32 :=
  if 4 ≤ x4 then
  (gB (x3)).bind fun vb =>
    some vb
  else
  if x3 = 0 then
    fX5_isAlike_44 k5  (x1) (x2) (x4) M
    else
    (rI M 50 100 ((5 * x1) + x4)).bind fun v1 =>
      (rI M 50 100 ((5 * x2) + x4)).bind fun v2 =>
      if v1 = v2 then
      fX5_isAlike_45 k5  (x1) (x2) (x4) (1) M
      else
      fX5_isAlike_44 k5  (x1) (x2) (x4) M
def fX5_isAlike_5L   (M : Mem) : Nat → Int32 → Int32 → Int32 → Int32 → Option Int32
  | 0 => fun _ _ _ _ => none
  | n + 1 => fun x1 x2 x3 x4 => fX5_isAlike_5B  (fX5_isAlike_5L   M n)  x1 x2 x3 x4 M
def fX5_isAlike  (x1 : Int32) (x2 : Int32) (M : Mem) : Option Int32 :=
  fX5_isAlike_5L   M FU (x1) (x2) (1) (0)

def fX5_freeIn_90 (k6 : Int32 → Int32 → Int32 → Int32 → Int32 → Mem → Option (Int32 × Mem)) (x1 : Int32) (x2 : Int32) (x3 : Int32) (x4 : Int32) (x5 : Int32) (M : Mem) : Option (Int32 × Mem) :=
  k6 (x1) (x2) (x3) (x4) (x5 + 1) M
def fX5_freeIn_87 (k6 : Int32 → Int32 → Int32 → Int32 → Int32 → Mem → Option (Int32 × Mem)) (x1 : Int32) (x2 : Int32) (x3 : Int32) (x5 : Int32) (s0 : Int32) (s1 : Int32) (M : Mem) : Option (Int32 × Mem) :=
  fX5_freeIn_90 k6  (x1) (x2) (x3) (s1 ||| s0) (x5) M
def fX5_freeIn_86 (k6 : Int32 → Int32 → Int32 → Int32 → Int32 → Mem → Option (Int32 × Mem)) (x1 : Int32) (x2 : Int32) (x3 : Int32) (x5 : Int32) (s0 : Int32) (M : Mem) : Option (Int32 × Mem) :=
  fX5_freeIn_87 k6  (x1) (x2) (x3) (x5) (0) (s0) M
def fX5_freeIn_6B (k6 : Int32 → Int32 → Int32 → Int32 → Int32 → Mem → Option (Int32 × Mem)) (x1 : Int32) (x2 : Int32) (x3 : Int32) (x4 : Int32) (x5 : Int32) (M : Mem) : Option (Int32 × Mem) :=
  (rI M 49 2 (0)).bind fun v1 =>
  if v1 ≤ x5 then
  some (x4, M)
  else
  (fX5_isAlike  (x1) (x5) M).bind fun v2 =>
    if v2 = 0 then
    fX5_freeIn_90 k6  (x1) (x2) (x3) (x4) (x5) M
    else
    (rI M 50 100 ((5 * x5) + 4)).bind fun v3 =>
      (fX5_lookAs  (x5) (v3) M).bind fun v4 =>
      (fX5_xAt  (x2) (x3) v4).bind fun v5 =>
      (fX5_yAt  (x2) (x3) v4).bind fun v6 =>
      (fX5_thoseOn  (v5) (v6) (v4.1 42 18) v4).bind fun v7 =>
      if v7 = 0 then
      (fX5_hides  (x2) (x3) v4).bind fun v8 =>
        if v8 = 1 then
        fX5_freeIn_87 k6  (x1) (x2) (x3) (x5) (1 <<< (x5 &&& 31)) (x4) v4
        else
        fX5_freeIn_86 k6  (x1) (x2) (x3) (x5) (x4) v4
      else
      fX5_freeIn_86 k6  (x1) (x2) (x3) (x5) (x4) v4
def fX5_freeIn_6L    : Nat → Int32 → Int32 → Int32 → Int32 → Int32 → Mem → Option (Int32 × Mem)
  | 0 => fun _ _ _ _ _ _ => none
  | n + 1 => fun x1 x2 x3 x4 x5 M => fX5_freeIn_6B  (fX5_freeIn_6L   n)  x1 x2 x3 x4 x5 M
def fX5_freeIn  (x1 : Int32) (x2 : Int32) (x3 : Int32) (M : Mem) : Option (Int32 × Mem) :=
  fX5_freeIn_6L   FU (x1) (x2) (x3) (0) (0) M

def fX5_findFree_103 (k13 : Int32 → Int32 → Mem → Option Mem) (k32 : Int32 → Int32 → Int32 → Mem → Option Mem) (x1 : Int32) (x2 : Int32) (x3 : Int32) (M : Mem) : Option Mem :=
  k32 (x1) (x2) (x3 + 1) M
def fX5_findFree_32B (k13 : Int32 → Int32 → Mem → Option Mem) (k32 : Int32 → Int32 → Int32 → Mem → Option Mem) (x1 : Int32) (x2 : Int32) (x3 : Int32) (M : Mem) : Option Mem :=
  if (x2 / 2) < x3 then
  k13 (x1) (x2 + 1) M
  else
  (fX5_xAt  (x2) (x3) M).bind fun v1 =>
    (fX5_yAt  (x2) (x3) M).bind fun v2 =>
    (fX5_isOn  (v1) (v2) M).bind fun v3 =>
    if v3 = 0 then
    fX5_findFree_103 k13 k32  (x1) (x2) (x3) M
    else
    (fX5_xAt  (x2) (x3) M).bind fun v4 =>
      (fX5_yAt  (x2) (x3) M).bind fun v5 =>
      (fX5_isWall  (v4) (v5) M).bind fun v6 =>
      if v6 = 0 then
      (fX5_freeIn  (x1) (x2) (x3) M).bind fun v7 =>
        (wI v7.2 66 81 (M.1 42 36) (v7.1)).bind fun M8 =>
        (wF M8 42 36 ((M8.1 42 36) + 1)).bind fun M9 =>
        fX5_findFree_103 k13 k32  (x1) (x2) (x3) M9
      else
      fX5_findFree_103 k13 k32  (x1) (x2) (x3) M
def fX5_findFree_32L (k13 : Int32 → Int32 → Mem → Option Mem)   : Nat → Int32 → Int32 → Int32 → Mem → Option Mem
  | 0 => fun _ _ _ _ => none
  | n + 1 => fun x1 x2 x3 M => fX5_findFree_32B k13 (fX5_findFree_32L k13  n)  x1 x2 x3 M
def fX5_findFree_13B (k13 : Int32 → Int32 → Mem → Option Mem) (x1 : Int32) (x2 : Int32) (M : Mem) : Option Mem :=
  (rI M 50 100 ((5 * x1) + 3)).bind fun v1 =>
  if v1 < x2 then
  some M
  else
  fX5_findFree_32L k13  FU (x1) (x2) (-(x2 / 2)) M
def fX5_findFree_13L    : Nat → Int32 → Int32 → Mem → Option Mem
  | 0 => fun _ _ _ => none
  | n + 1 => fun x1 x2 M => fX5_findFree_13B  (fX5_findFree_13L   n)  x1 x2 M
def fX5_findFree  (x1 : Int32) (M : Mem) : Option Mem :=
  (wF M 42 36 (0)).bind fun M1 =>
  (fX5_lookAs  (x1) (0) M1).bind fun v2 =>
  fX5_findFree_13L   FU (x1) (1) v2

def fX5_empty_231 (k122 : Int32 → Int32 → Int32 → Int32 → Mem → Option (Int32 × Mem)) (x3 : Int32) (x4 : Int32) (x6 : Int32) (s0 : Int32) (M : Mem) : Option (Int32 × Mem) :=
  k122 (x3) (x4) (s0) (x6 + 1) M
def fX5_empty_219 (k122 : Int32 → Int32 → Int32 → Int32 → Mem → Option (Int32 × Mem)) (x3 : Int32) (x4 : Int32) (x5 : Int32) (x6 : Int32) (x7 : Int32) (M : Mem) : Option (Int32 × Mem) :=
  if x7 = 0 then
  fX5_empty_231 k122  (x3) (x4) (x6) (x5) M
  else
  fX5_empty_231 k122  (x3) (x4) (x6) (x6) M
def fX5_empty_211 (k122 : Int32 → Int32 → Int32 → Int32 → Mem → Option (Int32 × Mem)) (k179 : Int32 → Int32 → Int32 → Int32 → Int32 → Int32 → Mem → Option (Int32 × Mem)) (x3 : Int32) (x4 : Int32) (x5 : Int32) (x6 : Int32) (x8 : Int32) (s0 : Int32) (M : Mem) : Option (Int32 × Mem) :=
  k179 (x3) (x4) (x5) (x6) (s0) (x8 + 1) M
def fX5_empty_179B (k122 : Int32 → Int32 → Int32 → Int32 → Mem → Option (Int32 × Mem)) (k179 : Int32 → Int32 → Int32 → Int32 → Int32 → Int32 → Mem → Option (Int32 × Mem)) (x3 : Int32) (x4 : Int32) (x5 : Int32) (x6 : Int32) (x7 : Int32) (x8 : Int32) (M : Mem) : Option (Int32 × Mem) :=
  if (M.1 42 36) ≤ x8 then
  fX5_empty_219 k122  (x3) (x4) (x5) (x6) (x7) M
  else
  if x7 = 0 then
    fX5_empty_219 k122  (x3) (x4) (x5) (x6) (x7) M
    else
    (rI M 66 81 (x8)).bind fun v1 =>
      if (v1 &&& x6) = 0 then
      fX5_empty_211 k122 k179  (x3) (x4) (x5) (x6) (x8) (0) M
      else
      fX5_empty_211 k122 k179  (x3) (x4) (x5) (x6) (x8) (1) M
def fX5_empty_179L (k122 : Int32 → Int32 → Int32 → Int32 → Mem → Option (Int32 × Mem))   : Nat → Int32 → Int32 → Int32 → Int32 → Int32 → Int32 → Mem → Option (Int32 × Mem)
  | 0 => fun _ _ _ _ _ _ _ => none
  | n + 1 => fun x3 x4 x5 x6 x7 x8 M => fX5_empty_179B k122 (fX5_empty_179L k122  n)  x3 x4 x5 x6 x7 x8 M
def fX5_empty_174 (k122 : Int32 → Int32 → Int32 → Int32 → Mem → Option (Int32 × Mem)) (x3 : Int32) (x4 : Int32) (x5 : Int32) (x6 : Int32) (s0 : Int32) (M : Mem) : Option (Int32 × Mem) :=
  fX5_empty_179L k122  FU (x3) (x4) (x5) (x6) (s0) (0) M
def fX5_empty_173 (k122 : Int32 → Int32 → Int32 → Int32 → Mem → Option (Int32 × Mem)) (x3 : Int32) (x4 : Int32) (x5 : Int32) (x6 : Int32) (M : Mem) : Option (Int32 × Mem) :=
  fX5_empty_174 k122  (x3) (x4) (x5) (x6) (0) M
def fX5_empty_169 (k122 : Int32 → Int32 → Int32 → Int32 → Mem → Option (Int32 × Mem)) (x3 : Int32) (x4 : Int32) (x5 : Int32) (x6 : Int32) (M : Mem) : Option (Int32 × Mem) :=
  fX5_empty_174 k122  (x3) (x4) (x5) (x6) (1) M
def fX5_empty_122B (k122 : Int32 → Int32 → Int32 → Int32 → Mem → Option (Int32 × Mem)) (x3 : Int32) (x4 : Int32) (x5 : Int32) (x6 : Int32) (M : Mem) : Option (Int32 × Mem) :=
  (rI M 49 2 (0)).bind fun v1 =>
  if (1 <<< (v1 &&& 31)) ≤ x6 then
  some (x5, M)
  else
  if x3 = 0 then
    if (x6 &&& (x4 ^^^ ((-1)))) = 0 then
      if x5 = ((-9)) then
        fX5_empty_169 k122  (x3) (x4) (x5) (x6) M
        else
        (fX5_bitsIn  (x6)).bind fun v2 =>
          (fX5_bitsIn  (x5)).bind fun v3 =>
          if v3 ≤ v2 then
          fX5_empty_173 k122  (x3) (x4) (x5) (x6) M
          else
          fX5_empty_169 k122  (x3) (x4) (x5) (x6) M
      else
      fX5_empty_173 k122  (x3) (x4) (x5) (x6) M
    else
    some (x5, M)
def fX5_empty_122L    : Nat → Int32 → Int32 → Int32 → Int32 → Mem → Option (Int32 × Mem)
  | 0 => fun _ _ _ _ _ => none
  | n + 1 => fun x3 x4 x5 x6 M => fX5_empty_122B  (fX5_empty_122L   n)  x3 x4 x5 x6 M
def fX5_empty_106 (k75 : Int32 → Int32 → Int32 → Int32 → Mem → Option (Int32 × Mem)) (x1 : Int32) (x3 : Int32) (x5 : Int32) (s0 : Int32) (s1 : Int32) (M : Mem) : Option (Int32 × Mem) :=
  k75 (x1) (x3) (s1 ||| s0) (x5 + 1) M
def fX5_empty_75B (k75 : Int32 → Int32 → Int32 → Int32 → Mem → Option (Int32 × Mem)) (x1 : Int32) (x3 : Int32) (x4 : Int32) (x5 : Int32) (M : Mem) : Option (Int32 × Mem) :=
  (rI M 49 2 (0)).bind fun v1 =>
  if v1 ≤ x5 then
  fX5_empty_122L   FU (x3) (x4) ((-9)) (0) M
  else
  (fX5_isAlike  (x1) (x5) M).bind fun v2 =>
    if v2 = 0 then
    fX5_empty_106 k75  (x1) (x3) (x5) (0) (x4) M
    else
    fX5_empty_106 k75  (x1) (x3) (x5) (1 <<< (x5 &&& 31)) (x4) M
def fX5_empty_75L    : Nat → Int32 → Int32 → Int32 → Int32 → Mem → Option (Int32 × Mem)
  | 0 => fun _ _ _ _ _ => none
  | n + 1 => fun x1 x3 x4 x5 M => fX5_empty_75B  (fX5_empty_75L   n)  x1 x3 x4 x5 M
def fX5_empty_54 (k29 : Int32 → Int32 → Int32 → Int32 → Mem → Option (Int32 × Mem)) (x1 : Int32) (x2 : Int32) (x4 : Int32) (s0 : Int32) (s1 : Int32) (M : Mem) : Option (Int32 × Mem) :=
  k29 (x1) (x2) (s1 + s0) (x4 + 1) M
def fX5_empty_29B (k29 : Int32 → Int32 → Int32 → Int32 → Mem → Option (Int32 × Mem)) (x1 : Int32) (x2 : Int32) (x3 : Int32) (x4 : Int32) (M : Mem) : Option (Int32 × Mem) :=
  if (M.1 42 36) ≤ x4 then
  if x2 = 1 then
    some (x3, M)
    else
    fX5_empty_75L   FU (x1) (x3) (0) (0) M
  else
  (rI M 66 81 (x4)).bind fun v1 =>
    if v1 = 0 then
    fX5_empty_54 k29  (x1) (x2) (x4) (1) (x3) M
    else
    fX5_empty_54 k29  (x1) (x2) (x4) (0) (x3) M
def fX5_empty_29L    : Nat → Int32 → Int32 → Int32 → Int32 → Mem → Option (Int32 × Mem)
  | 0 => fun _ _ _ _ _ => none
  | n + 1 => fun x1 x2 x3 x4 M => fX5_empty_29B  (fX5_empty_29L   n)  x1 x2 x3 x4 M
def fX5_empty  (x1 : Int32) (x2 : Int32) (M : Mem) : Option (Int32 × Mem) :=
  (fX5_isPicture  (x1) M).bind fun v1 =>
  if v1 = 0 then
  some ((-1), M)
  else
  (fX5_in  (x2) (0) (1)).bind fun v2 =>
    if v2 = 0 then
    some ((-1), M)
    else
    (fX5_findFree  (x1) M).bind fun v3 =>
      fX5_empty_29L   FU (x1) (x2) (0) (0) v3

def fX5_waitOf_2B (k2 : Int32 → Int32 → Mem → Option (Int32 × Mem)) (x1 : Int32) (x2 : Int32) (M : Mem) : Option (Int32 × Mem) :=
  if 99 < x2 then
  some ((-9), M)
  else
  (rI M 50 100 ((5 * x1) + 4)).bind fun v1 =>
    (fX5_lookAs  (x1) (v1 + x2) M).bind fun v2 =>
    (rI v2 50 100 ((5 * x1) + 3)).bind fun v3 =>
    (fX5_shown  (v3) v2).bind fun v4 =>
    if v4 = 0 then
    some (x2, v2)
    else
    k2 (x1) (x2 + 1) v2
def fX5_waitOf_2L    : Nat → Int32 → Int32 → Mem → Option (Int32 × Mem)
  | 0 => fun _ _ _ => none
  | n + 1 => fun x1 x2 M => fX5_waitOf_2B  (fX5_waitOf_2L   n)  x1 x2 M
def fX5_waitOf  (x1 : Int32) (M : Mem) : Option (Int32 × Mem) :=
  fX5_waitOf_2L   FU (x1) (0) M

def fX5_waits  (x1 : Int32) (M : Mem) : Option (Int32 × Mem) :=
  (fX5_isPicture  (x1) M).bind fun v1 =>
  if v1 = 0 then
  some ((-1), M)
  else
  (fX5_waitOf  (x1) M).bind fun v2 =>
    some (v2.1, v2.2)

def fX5_lost_32 (k4 : Int32 → Int32 → Mem → Option (Int32 × Mem)) (x2 : Int32) (s0 : Int32) (s1 : Int32) (M : Mem) : Option (Int32 × Mem) :=
  k4 (s1 + s0) (x2 + 1) M
def fX5_lost_4B (k4 : Int32 → Int32 → Mem → Option (Int32 × Mem)) (x1 : Int32) (x2 : Int32) (M : Mem) : Option (Int32 × Mem) :=
  (rI M 49 2 (0)).bind fun v1 =>
  if v1 ≤ x2 then
  some (x1, M)
  else
  (fX5_waitOf  (x2) M).bind fun v2 =>
    if v2.1 = ((-9)) then
    fX5_lost_32 k4  (x2) (0) (x1) v2.2
    else
    fX5_lost_32 k4  (x2) (v2.1) (x1) v2.2
def fX5_lost_4L    : Nat → Int32 → Int32 → Mem → Option (Int32 × Mem)
  | 0 => fun _ _ _ => none
  | n + 1 => fun x1 x2 M => fX5_lost_4B  (fX5_lost_4L   n)  x1 x2 M
def fX5_lost   (M : Mem) : Option (Int32 × Mem) :=
  fX5_lost_4L   FU (0) (0) M

def fX5_told_243 (k201 : Int32 → Int32 → Int32 → Int32 → Int32 → Int32 → Mem → Option (Int32 × Mem)) (x2 : Int32) (x3 : Int32) (x4 : Int32) (x5 : Int32) (x7 : Int32) (s0 : Int32) (M : Mem) : Option (Int32 × Mem) :=
  k201 (x2) (x3) (x4) (x5) (s0) (x7 + 1) M
def fX5_told_233 (k201 : Int32 → Int32 → Int32 → Int32 → Int32 → Int32 → Mem → Option (Int32 × Mem)) (x2 : Int32) (x3 : Int32) (x4 : Int32) (x5 : Int32) (x6 : Int32) (x7 : Int32) (s0 : Int32) (s1 : Int32) (M : Mem) : Option (Int32 × Mem) :=
  if s1 ≤ s0 then
  fX5_told_243 k201  (x2) (x3) (x4) (x5) (x7) (x6) M
  else
  fX5_told_243 k201  (x2) (x3) (x4) (x5) (x7) (x7) M
def fX5_told_201B (k201 : Int32 → Int32 → Int32 → Int32 → Int32 → Int32 → Mem → Option (Int32 × Mem)) (x2 : Int32) (x3 : Int32) (x4 : Int32) (x5 : Int32) (x6 : Int32) (x7 : Int32) (M : Mem) : Option (Int32 × Mem) :=
  if 8 ≤ x7 then
  if x2 = 0 then
    some (x3, M)
    else
    if x2 = 1 then
      some (x6, M)
      else
      if x2 = 2 then
        some (x4, M)
        else
        some (x5, M)
  else
  (rI M 67 8 (x7)).bind fun v1 =>
    if x6 = ((-9)) then
    fX5_told_233 k201  (x2) (x3) (x4) (x5) (x6) (x7) (0) (v1) M
    else
    (rI M 67 8 (x6)).bind fun v2 =>
      fX5_told_233 k201  (x2) (x3) (x4) (x5) (x6) (x7) (v2) (v1) M
def fX5_told_201L    : Nat → Int32 → Int32 → Int32 → Int32 → Int32 → Int32 → Mem → Option (Int32 × Mem)
  | 0 => fun _ _ _ _ _ _ _ => none
  | n + 1 => fun x2 x3 x4 x5 x6 x7 M => fX5_told_201B  (fX5_told_201L   n)  x2 x3 x4 x5 x6 x7 M
def fX5_told_188 (k56 : Int32 → Int32 → Int32 → Int32 → Int32 → Int32 → Mem → Option (Int32 × Mem)) (x1 : Int32) (x2 : Int32) (x3 : Int32) (x4 : Int32) (x5 : Int32) (x6 : Int32) (M : Mem) : Option (Int32 × Mem) :=
  k56 (x1) (x2) (x3) (x4) (x5) (x6 + 1) M
def fX5_told_180 (k56 : Int32 → Int32 → Int32 → Int32 → Int32 → Int32 → Mem → Option (Int32 × Mem)) (k143 : Int32 → Int32 → Int32 → Int32 → Int32 → Int32 → Int32 → Int32 → Mem → Option (Int32 × Mem)) (x1 : Int32) (x2 : Int32) (x3 : Int32) (x4 : Int32) (x5 : Int32) (x6 : Int32) (x7 : Int32) (x9 : Int32) (s0 : Int32) (s1 : Int32) (s2 : Int32) (M : Mem) : Option (Int32 × Mem) :=
  (wI M 67 8 (s2) (s1 + s0)).bind fun M1 =>
  k143 (x1) (x2) (x3) (x4) (x5) (x6) (x7) (x9 + 1) M1
def fX5_told_179 (k56 : Int32 → Int32 → Int32 → Int32 → Int32 → Int32 → Mem → Option (Int32 × Mem)) (k143 : Int32 → Int32 → Int32 → Int32 → Int32 → Int32 → Int32 → Int32 → Mem → Option (Int32 × Mem)) (x1 : Int32) (x2 : Int32) (x3 : Int32) (x4 : Int32) (x5 : Int32) (x6 : Int32) (x7 : Int32) (x9 : Int32) (s0 : Int32) (s1 : Int32) (M : Mem) : Option (Int32 × Mem) :=
  fX5_told_180 k56 k143  (x1) (x2) (x3) (x4) (x5) (x6) (x7) (x9) (0) (s0) (s1) M
def fX5_told_143B (k56 : Int32 → Int32 → Int32 → Int32 → Int32 → Int32 → Mem → Option (Int32 × Mem)) (k143 : Int32 → Int32 → Int32 → Int32 → Int32 → Int32 → Int32 → Int32 → Mem → Option (Int32 × Mem)) (x1 : Int32) (x2 : Int32) (x3 : Int32) (x4 : Int32) (x5 : Int32) (x6 : Int32) (x7 : Int32) (x9 : Int32) (M : Mem) : Option (Int32 × Mem) :=
  if 8 ≤ x9 then
  fX5_told_188 k56  (x1) (x2) (x3) (x4) (x5) (x6) M
  else
  (rI M 67 8 (x9)).bind fun v1 =>
    if x9 = x1 then
    fX5_told_179 k56 k143  (x1) (x2) (x3) (x4) (x5) (x6) (x7) (x9) (v1) (x9) M
    else
    if ((x7 >>> (x9 &&& 31)) &&& 1) = 1 then
      fX5_told_180 k56 k143  (x1) (x2) (x3) (x4) (x5) (x6) (x7) (x9) (1) (v1) (x9) M
      else
      fX5_told_179 k56 k143  (x1) (x2) (x3) (x4) (x5) (x6) (x7) (x9) (v1) (x9) M
def fX5_told_143L (k56 : Int32 → Int32 → Int32 → Int32 → Int32 → Int32 → Mem → Option (Int32 × Mem))   : Nat → Int32 → Int32 → Int32 → Int32 → Int32 → Int32 → Int32 → Int32 → Mem → Option (Int32 × Mem)
  | 0 => fun _ _ _ _ _ _ _ _ _ => none
  | n + 1 => fun x1 x2 x3 x4 x5 x6 x7 x9 M => fX5_told_143B k56 (fX5_told_143L k56  n)  x1 x2 x3 x4 x5 x6 x7 x9 M
def fX5_told_138 (k56 : Int32 → Int32 → Int32 → Int32 → Int32 → Int32 → Mem → Option (Int32 × Mem)) (x1 : Int32) (x2 : Int32) (x3 : Int32) (x4 : Int32) (x6 : Int32) (x7 : Int32) (s0 : Int32) (M : Mem) : Option (Int32 × Mem) :=
  fX5_told_143L k56  FU (x1) (x2) (x3) (x4) (s0) (x6) (x7) (0) M
def fX5_told_122 (k56 : Int32 → Int32 → Int32 → Int32 → Int32 → Int32 → Mem → Option (Int32 × Mem)) (x1 : Int32) (x2 : Int32) (x3 : Int32) (x5 : Int32) (x6 : Int32) (x7 : Int32) (x8 : Int32) (s0 : Int32) (M : Mem) : Option (Int32 × Mem) :=
  if x8 ≤ x5 then
  fX5_told_138 k56  (x1) (x2) (x3) (s0) (x6) (x7) (x5) M
  else
  fX5_told_138 k56  (x1) (x2) (x3) (s0) (x6) (x7) (x8) M
def fX5_told_115 (k56 : Int32 → Int32 → Int32 → Int32 → Int32 → Int32 → Mem → Option (Int32 × Mem)) (x1 : Int32) (x2 : Int32) (x3 : Int32) (x5 : Int32) (x6 : Int32) (x7 : Int32) (x8 : Int32) (M : Mem) : Option (Int32 × Mem) :=
  fX5_told_122 k56  (x1) (x2) (x3) (x5) (x6) (x7) (x8) (x8) M
def fX5_told_56B (k56 : Int32 → Int32 → Int32 → Int32 → Int32 → Int32 → Mem → Option (Int32 × Mem)) (x1 : Int32) (x2 : Int32) (x3 : Int32) (x4 : Int32) (x5 : Int32) (x6 : Int32) (M : Mem) : Option (Int32 × Mem) :=
  (rI M 49 2 (0)).bind fun v1 =>
  if v1 ≤ x6 then
  fX5_told_201L   FU (x2) (x3) (x4) (x5) ((-9)) (0) M
  else
  (fX5_showsOf  (x6) M).bind fun v2 =>
    (rI v2.2 50 100 ((5 * x6) + 4)).bind fun v3 =>
    if ((v2.1 >>> (x1 &&& 31)) &&& 1) = 1 then
    if x4 = ((-9)) then
      fX5_told_115 k56  (x1) (x2) (x3 + 1) (x5) (x6) (v2.1) (v3) v2.2
      else
      if x4 ≤ v3 then
        fX5_told_122 k56  (x1) (x2) (x3 + 1) (x5) (x6) (v2.1) (v3) (x4) v2.2
        else
        fX5_told_115 k56  (x1) (x2) (x3 + 1) (x5) (x6) (v2.1) (v3) v2.2
    else
    fX5_told_188 k56  (x1) (x2) (x3) (x4) (x5) (x6) v2.2
def fX5_told_56L    : Nat → Int32 → Int32 → Int32 → Int32 → Int32 → Int32 → Mem → Option (Int32 × Mem)
  | 0 => fun _ _ _ _ _ _ _ => none
  | n + 1 => fun x1 x2 x3 x4 x5 x6 M => fX5_told_56B  (fX5_told_56L   n)  x1 x2 x3 x4 x5 x6 M
def fX5_told_32B (k32 : Int32 → Int32 → Int32 → Int32 → Int32 → Int32 → Mem → Option (Int32 × Mem)) (x1 : Int32) (x2 : Int32) (x3 : Int32) (x4 : Int32) (x5 : Int32) (x6 : Int32) (M : Mem) : Option (Int32 × Mem) :=
  if 8 ≤ x6 then
  fX5_told_56L   FU (x1) (x2) (x3) (x4) (x5) (0) M
  else
  (wI M 67 8 (x6) (0)).bind fun M1 =>
    k32 (x1) (x2) (x3) (x4) (x5) (x6 + 1) M1
def fX5_told_32L    : Nat → Int32 → Int32 → Int32 → Int32 → Int32 → Int32 → Mem → Option (Int32 × Mem)
  | 0 => fun _ _ _ _ _ _ _ => none
  | n + 1 => fun x1 x2 x3 x4 x5 x6 M => fX5_told_32B  (fX5_told_32L   n)  x1 x2 x3 x4 x5 x6 M
def fX5_told  (x1 : Int32) (x2 : Int32) (M : Mem) : Option (Int32 × Mem) :=
  (fX5_isPerson  (x1) M).bind fun v1 =>
  if v1 = 0 then
  some ((-1), M)
  else
  (fX5_in  (x2) (0) (3)).bind fun v2 =>
    if v2 = 0 then
    some ((-1), M)
    else
    fX5_told_32L   FU (x1) (x2) (0) ((-9)) ((-9)) (0) M

def fX5_manyTo_82 (k5 : Int32 → Int32 → Int32 → Int32 → Mem → Option (Int32 × Mem)) (x1 : Int32) (x2 : Int32) (x4 : Int32) (s0 : Int32) (s1 : Int32) (M : Mem) : Option (Int32 × Mem) :=
  k5 (x1) (x2) (s1 + s0) (x4 + 1) M
def fX5_manyTo_81 (k5 : Int32 → Int32 → Int32 → Int32 → Mem → Option (Int32 × Mem)) (x1 : Int32) (x2 : Int32) (x4 : Int32) (s0 : Int32) (M : Mem) : Option (Int32 × Mem) :=
  fX5_manyTo_82 k5  (x1) (x2) (x4) (0) (s0) M
def fX5_manyTo_5B (k5 : Int32 → Int32 → Int32 → Int32 → Mem → Option (Int32 × Mem)) (x1 : Int32) (x2 : Int32) (x3 : Int32) (x4 : Int32) (M : Mem) : Option (Int32 × Mem) :=
  (rI M 49 2 (0)).bind fun v1 =>
  if v1 ≤ x4 then
  some (x3, M)
  else
  (rI M 50 100 ((5 * x4) + 4)).bind fun v2 =>
    (fX5_lookAs  (x4) (v2) M).bind fun v3 =>
    (rI v3 50 100 ((5 * x4) + 3)).bind fun v4 =>
    (fX5_aheadOf  (x1) (v4) v3).bind fun v5 =>
    if v5.1 ≤ 0 then
    fX5_manyTo_81 k5  (x1) (x2) (x4) (x3) v5.2
    else
    if x2 < v5.1 then
      fX5_manyTo_81 k5  (x1) (x2) (x4) (x3) v5.2
      else
      (fX5_hides  (v5.1) (v5.2.1 42 19) v5.2).bind fun v6 =>
        if v6 = 1 then
        fX5_manyTo_82 k5  (x1) (x2) (x4) (1) (x3) v5.2
        else
        fX5_manyTo_81 k5  (x1) (x2) (x4) (x3) v5.2
def fX5_manyTo_5L    : Nat → Int32 → Int32 → Int32 → Int32 → Mem → Option (Int32 × Mem)
  | 0 => fun _ _ _ _ _ => none
  | n + 1 => fun x1 x2 x3 x4 M => fX5_manyTo_5B  (fX5_manyTo_5L   n)  x1 x2 x3 x4 M
def fX5_manyTo  (x1 : Int32) (x2 : Int32) (M : Mem) : Option (Int32 × Mem) :=
  fX5_manyTo_5L   FU (x1) (x2) (0) (0) M

def fX5_rule_89 (k16 : Int32 → Int32 → Int32 → Mem → Option (Int32 × Mem)) (x1 : Int32) (x3 : Int32) (s0 : Int32) (M : Mem) : Option (Int32 × Mem) :=
  k16 (x1) (s0) (x3 + 1) M
def fX5_rule_79 (k16 : Int32 → Int32 → Int32 → Mem → Option (Int32 × Mem)) (x1 : Int32) (x2 : Int32) (x3 : Int32) (x4 : Int32) (M : Mem) : Option (Int32 × Mem) :=
  if x4 = 0 then
  fX5_rule_89 k16  (x1) (x3) (x2) M
  else
  fX5_rule_89 k16  (x1) (x3) (x3) M
def fX5_rule_71 (k16 : Int32 → Int32 → Int32 → Mem → Option (Int32 × Mem)) (k39 : Int32 → Int32 → Int32 → Int32 → Int32 → Mem → Option (Int32 × Mem)) (x1 : Int32) (x2 : Int32) (x3 : Int32) (x5 : Int32) (s0 : Int32) (M : Mem) : Option (Int32 × Mem) :=
  k39 (x1) (x2) (x3) (s0) (x5 + 1) M
def fX5_rule_39B (k16 : Int32 → Int32 → Int32 → Mem → Option (Int32 × Mem)) (k39 : Int32 → Int32 → Int32 → Int32 → Int32 → Mem → Option (Int32 × Mem)) (x1 : Int32) (x2 : Int32) (x3 : Int32) (x4 : Int32) (x5 : Int32) (M : Mem) : Option (Int32 × Mem) :=
  (rI M 47 2 (0)).bind fun v1 =>
  if v1 ≤ x5 then
  fX5_rule_79 k16  (x1) (x2) (x3) (x4) M
  else
  if x4 = 0 then
    fX5_rule_79 k16  (x1) (x2) (x3) (x4) M
    else
    (fX5_manyTo  (x5) (x3) M).bind fun v2 =>
      if x1 < v2.1 then
      fX5_rule_71 k16 k39  (x1) (x2) (x3) (x5) (0) v2.2
      else
      fX5_rule_71 k16 k39  (x1) (x2) (x3) (x5) (1) v2.2
def fX5_rule_39L (k16 : Int32 → Int32 → Int32 → Mem → Option (Int32 × Mem))   : Nat → Int32 → Int32 → Int32 → Int32 → Int32 → Mem → Option (Int32 × Mem)
  | 0 => fun _ _ _ _ _ _ => none
  | n + 1 => fun x1 x2 x3 x4 x5 M => fX5_rule_39B k16 (fX5_rule_39L k16  n)  x1 x2 x3 x4 x5 M
def fX5_rule_34 (k16 : Int32 → Int32 → Int32 → Mem → Option (Int32 × Mem)) (x1 : Int32) (x2 : Int32) (x3 : Int32) (s0 : Int32) (M : Mem) : Option (Int32 × Mem) :=
  fX5_rule_39L k16  FU (x1) (x2) (x3) (s0) (0) M
def fX5_rule_16B (k16 : Int32 → Int32 → Int32 → Mem → Option (Int32 × Mem)) (x1 : Int32) (x2 : Int32) (x3 : Int32) (M : Mem) : Option (Int32 × Mem) :=
  if 9 < x3 then
  some (x2, M)
  else
  if x2 = (x3 - 1) then
    fX5_rule_34 k16  (x1) (x2) (x3) (1) M
    else
    fX5_rule_34 k16  (x1) (x2) (x3) (0) M
def fX5_rule_16L    : Nat → Int32 → Int32 → Int32 → Mem → Option (Int32 × Mem)
  | 0 => fun _ _ _ _ => none
  | n + 1 => fun x1 x2 x3 M => fX5_rule_16B  (fX5_rule_16L   n)  x1 x2 x3 M
def fX5_rule  (x1 : Int32) (M : Mem) : Option (Int32 × Mem) :=
  (fX5_in  (x1) (0) (10)).bind fun v1 =>
  if v1 = 0 then
  some ((-1), M)
  else
  fX5_rule_16L   FU (x1) (0) (1) M

def fX5_untrue  (x1 : Int32) (x2 : Int32) (M : Mem) : Option (Int32 × Mem) :=
  (fX5_isPicture  (x1) M).bind fun v1 =>
  if v1 = 0 then
  some ((-1), M)
  else
  (fX5_isSet  (x2) M).bind fun v2 =>
    if v2 = 0 then
    some ((-1), M)
    else
    (fX5_showsOf  (x1) M).bind fun v3 =>
      (fX5_bitsIn  (x2 &&& (v3.1 ^^^ ((-1))))).bind fun v4 =>
      (fX5_bitsIn  (v3.1 &&& (x2 ^^^ ((-1))))).bind fun v5 =>
      some (v4 + v5, v3.2)

def fX5_rate  (x1 : Int32) (x2 : Int32) (M : Mem) : Option (Int32 × Mem) :=
  (fX5_in  (x1) (0) (5)).bind fun v1 =>
  if v1 = 0 then
  some ((-1000000), M)
  else
  (fX5_isPicture  (x2) M).bind fun v2 =>
    if v2 = 0 then
    some ((-1000000), M)
    else
    (fX5_showsOf  (x2) M).bind fun v3 =>
      (fX5_bitsIn  (v3.1)).bind fun v4 =>
      (rI v3.2 50 100 ((5 * x2) + 3)).bind fun v5 =>
      if x1 = 0 then
      (wG v3.2 42 0 ((v3.2.2.1 42 0) + 1)).bind fun M6 =>
        some (v4, M6)
      else
      if x1 = 1 then
        (wG v3.2 42 0 ((v3.2.2.1 42 0) + 11)).bind fun M7 =>
          some (v4 + v5, M7)
        else
        if x1 = 2 then
          (wG v3.2 42 0 ((v3.2.2.1 42 0) + 101)).bind fun M8 =>
            some (3 * v4, M8)
          else
          if x1 = 3 then
            (wG v3.2 42 0 ((v3.2.2.1 42 0) + 1101)).bind fun M9 =>
              (fX5_waitOf  (x2) M9).bind fun v10 =>
              if v10.1 = ((-9)) then
              some ((3 * v4) + 100, v10.2)
              else
              some ((3 * v4) + v10.1, v10.2)
            else
            if x1 = 4 then
              (wG v3.2 42 0 ((v3.2.2.1 42 0) + 10011)).bind fun M11 =>
                some (2 * (v4 + v5), M11)
              else
              (wG v3.2 42 0 ((v3.2.2.1 42 0) + 100001)).bind fun M12 =>
                (rI M12 50 100 ((5 * x2) + 4)).bind fun v13 =>
                some (v4 - v13, M12)

def fX5_copy_230B (k230 : Int32 → Int32 → Int32 → Mem → Option Mem) (x1 : Int32) (x2 : Int32) (x3 : Int32) (M : Mem) : Option Mem :=
  if 10 ≤ x3 then
  some M
  else
  (rI M 61 30 ((10 * x1) + x3)).bind fun v1 =>
    (wI M 61 30 ((10 * x2) + x3) (v1)).bind fun M2 =>
    k230 (x1) (x2) (x3 + 1) M2
def fX5_copy_230L    : Nat → Int32 → Int32 → Int32 → Mem → Option Mem
  | 0 => fun _ _ _ _ => none
  | n + 1 => fun x1 x2 x3 M => fX5_copy_230B  (fX5_copy_230L   n)  x1 x2 x3 M
def fX5_copy_128B (k128 : Int32 → Int32 → Int32 → Mem → Option Mem) (x1 : Int32) (x2 : Int32) (x3 : Int32) (M : Mem) : Option Mem :=
  if 8 ≤ x3 then
  fX5_copy_230L   FU (x1) (x2) (0) M
  else
  (rI M 57 24 ((8 * x1) + x3)).bind fun v1 =>
    (wI M 57 24 ((8 * x2) + x3) (v1)).bind fun M2 =>
    (rI M2 58 24 ((8 * x1) + x3)).bind fun v3 =>
    (wI M2 58 24 ((8 * x2) + x3) (v3)).bind fun M4 =>
    (rI M4 59 24 ((8 * x1) + x3)).bind fun v5 =>
    (wI M4 59 24 ((8 * x2) + x3) (v5)).bind fun M6 =>
    (rI M6 60 24 ((8 * x1) + x3)).bind fun v7 =>
    (wI M6 60 24 ((8 * x2) + x3) (v7)).bind fun M8 =>
    k128 (x1) (x2) (x3 + 1) M8
def fX5_copy_128L    : Nat → Int32 → Int32 → Int32 → Mem → Option Mem
  | 0 => fun _ _ _ _ => none
  | n + 1 => fun x1 x2 x3 M => fX5_copy_128B  (fX5_copy_128L   n)  x1 x2 x3 M
def fX5_copy_26B (k26 : Int32 → Int32 → Int32 → Mem → Option Mem) (x1 : Int32) (x2 : Int32) (x3 : Int32) (M : Mem) : Option Mem :=
  if 20 ≤ x3 then
  fX5_copy_128L   FU (x1) (x2) (0) M
  else
  (rI M 52 60 ((20 * x1) + x3)).bind fun v1 =>
    (wI M 52 60 ((20 * x2) + x3) (v1)).bind fun M2 =>
    (rI M2 53 60 ((20 * x1) + x3)).bind fun v3 =>
    (wI M2 53 60 ((20 * x2) + x3) (v3)).bind fun M4 =>
    (rI M4 54 60 ((20 * x1) + x3)).bind fun v5 =>
    (wI M4 54 60 ((20 * x2) + x3) (v5)).bind fun M6 =>
    (rI M6 55 60 ((20 * x1) + x3)).bind fun v7 =>
    (wI M6 55 60 ((20 * x2) + x3) (v7)).bind fun M8 =>
    k26 (x1) (x2) (x3 + 1) M8
def fX5_copy_26L    : Nat → Int32 → Int32 → Int32 → Mem → Option Mem
  | 0 => fun _ _ _ _ => none
  | n + 1 => fun x1 x2 x3 M => fX5_copy_26B  (fX5_copy_26L   n)  x1 x2 x3 M
def fX5_copy  (x1 : Int32) (x2 : Int32) (M : Mem) : Option Mem :=
  (rI M 51 3 (x1)).bind fun v1 =>
  (wI M 51 3 (x2) (v1)).bind fun M2 =>
  (rI M2 56 3 (x1)).bind fun v3 =>
  (wI M2 56 3 (x2) (v3)).bind fun M4 =>
  fX5_copy_26L   FU (x1) (x2) (0) M4

def fX5_keep  (x1 : Int32) (M : Mem) : Option (Int32 × Mem) :=
  (fX5_in  (x1) (0) (1)).bind fun v1 =>
  if v1 = 0 then
  some ((-1), M)
  else
  (fX5_copy  (0) (1 + x1) M).bind fun v2 =>
    (wZ v2 62 2 (x1) (1)).bind fun M3 =>
    (rI M3 51 3 (0)).bind fun v4 =>
    some (v4, M3)

def fX5_back  (x1 : Int32) (M : Mem) : Option (Int32 × Mem) :=
  (fX5_in  (x1) (0) (1)).bind fun v1 =>
  if v1 = 0 then
  some ((-1), M)
  else
  (rI M 62 2 (x1)).bind fun v2 =>
    if v2 = 0 then
    some ((-2), M)
    else
    (fX5_copy  (1 + x1) (0) M).bind fun v3 =>
      (rI v3 51 3 (0)).bind fun v4 =>
      some (v4, v3)

def fX5_count_26 (k4 : Int32 → Int32 → Int32 → Option Int32) (x1 : Int32) (x3 : Int32) (s0 : Int32) (s1 : Int32) (M : Mem) : Option Int32 :=
  k4 (x1) (s1 + s0) (x3 + 1)
def fX5_count_4B (k4 : Int32 → Int32 → Int32 → Option Int32) (x1 : Int32) (x2 : Int32) (x3 : Int32) (M : Mem) : Option Int32 :=
  if 144 ≤ x3 then
  if x1 = 0 then
    (rI M 47 2 (0)).bind fun v1 =>
      some (v1)
    else
    if x1 = 1 then
      (rI M 49 2 (0)).bind fun v2 =>
        some (v2)
      else
      if x1 = 2 then
        some (x2)
        else
        if x1 = 3 then
          (rI M 51 3 (0)).bind fun v3 =>
            some (v3)
          else
          if x1 = 4 then
            (rI M 56 3 (0)).bind fun v4 =>
              some (v4)
            else
            if x1 = 5 then
              some (M.1 42 2)
              else
              if x1 = 6 then
                (rI M 44 2 (0)).bind fun v5 =>
                  some (v5)
                else
                if x1 = 7 then
                  (rI M 45 2 (0)).bind fun v6 =>
                    some (v6)
                  else
                  some ((-1))
  else
  (rI M 46 288 (x3)).bind fun v7 =>
    if v7 = 0 then
    fX5_count_26 k4  (x1) (x3) (0) (x2) M
    else
    fX5_count_26 k4  (x1) (x3) (1) (x2) M
def fX5_count_4L   (M : Mem) : Nat → Int32 → Int32 → Int32 → Option Int32
  | 0 => fun _ _ _ => none
  | n + 1 => fun x1 x2 x3 => fX5_count_4B  (fX5_count_4L   M n)  x1 x2 x3 M
def fX5_count  (x1 : Int32) (M : Mem) : Option Int32 :=
  fX5_count_4L   M FU (x1) (0) (0)

def fX5_trace   (M : Mem) : Option Int64 :=
  some (M.2.1 42 0)
